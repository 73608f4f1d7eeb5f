-- methods, their words, their links: by program (wip/whole/gen/out.py)
def M_chances_goOn : MD := (0, ⟨"SevenLeague$Chances", "goOn", "(LSevenLeague$Country;IJIJ)V"⟩, prog_2_method_3_code, 9, none)
theorem mk_chances_goOn : Mok M_chances_goOn 5 := ⟨gw_mem (p := 1252) (by decide +kernel) (by decide +kernel), gw_mem (p := 116) (by decide +kernel) (by decide +kernel), by decide +kernel, by decide, rfl, ⟨by decide +kernel, by decide +kernel⟩, by decide +kernel⟩
def M_chances_weigh : MD := (0, ⟨"SevenLeague$Chances", "weigh", "(LSevenLeague$Country;LSevenLeague$State;III)V"⟩, prog_2_method_2_code, 7, none)
theorem mk_chances_weigh : Mok M_chances_weigh 5 := ⟨gw_mem (p := 1246) (by decide +kernel) (by decide +kernel), gw_mem (p := 116) (by decide +kernel) (by decide +kernel), by decide +kernel, by decide, rfl, ⟨by decide +kernel, by decide +kernel⟩, by decide +kernel⟩
def M_country_allCells : MD := (1, ⟨"SevenLeague$Country", "allCells", "()J"⟩, prog_3_method_3_code, 1, (some .long))
theorem mk_country_allCells : Mok M_country_allCells 0 := ⟨gw_mem (p := 849) (by decide +kernel) (by decide +kernel), gw_mem (p := 108) (by decide +kernel) (by decide +kernel), by decide +kernel, by decide, rfl, ⟨by decide +kernel, by decide +kernel⟩, by decide +kernel⟩
def M_country_bestQuestion : MD := (1, ⟨"SevenLeague$Country", "bestQuestion", "()I"⟩, prog_3_method_25_code, 6, (some .int))
theorem mk_country_bestQuestion : Mok M_country_bestQuestion 0 := ⟨gw_mem (p := 1201) (by decide +kernel) (by decide +kernel), gw_mem (p := 108) (by decide +kernel) (by decide +kernel), by decide +kernel, by decide, rfl, ⟨by decide +kernel, by decide +kernel⟩, by decide +kernel⟩
def M_country_clear : MD := (1, ⟨"SevenLeague$Country", "clea\x72", "()V"⟩, prog_3_method_2_code, 1, none)
theorem mk_country_clear : Mok M_country_clear 0 := ⟨gw_mem (p := 537) (by decide +kernel) (by decide +kernel), gw_mem (p := 108) (by decide +kernel) (by decide +kernel), by decide +kernel, by decide, rfl, ⟨by decide +kernel, by decide +kernel⟩, by decide +kernel⟩
def M_country_digitIn : MD := (1, ⟨"SevenLeague$Country", "digitIn", "(II)I"⟩, prog_3_method_19_code, 4, (some .int))
theorem mk_country_digitIn : Mok M_country_digitIn 2 := ⟨gw_mem (p := 1158) (by decide +kernel) (by decide +kernel), gw_mem (p := 108) (by decide +kernel) (by decide +kernel), by decide +kernel, by decide, rfl, ⟨by decide +kernel, by decide +kernel⟩, by decide +kernel⟩
def M_country_firstUnlike : MD := (1, ⟨"SevenLeague$Country", "firstUnlike", "()I"⟩, prog_3_method_21_code, 1, (some .int))
theorem mk_country_firstUnlike : Mok M_country_firstUnlike 0 := ⟨gw_mem (p := 1220) (by decide +kernel) (by decide +kernel), gw_mem (p := 108) (by decide +kernel) (by decide +kernel), by decide +kernel, by decide, rfl, ⟨by decide +kernel, by decide +kernel⟩, by decide +kernel⟩
def M_country_fitsAll : MD := (1, ⟨"SevenLeague$Country", "fitsAll", "(I)Z"⟩, prog_3_method_18_code, 7, (some .boolean))
theorem mk_country_fitsAll : Mok M_country_fitsAll 1 := ⟨gw_mem (p := 1154) (by decide +kernel) (by decide +kernel), gw_mem (p := 108) (by decide +kernel) (by decide +kernel), by decide +kernel, by decide, rfl, ⟨by decide +kernel, by decide +kernel⟩, by decide +kernel⟩
def M_country_fittingSets : MD := (1, ⟨"SevenLeague$Country", "fittingSets", "()I"⟩, prog_3_method_17_code, 4, (some .int))
theorem mk_country_fittingSets : Mok M_country_fittingSets 0 := ⟨gw_mem (p := 1150) (by decide +kernel) (by decide +kernel), gw_mem (p := 108) (by decide +kernel) (by decide +kernel), by decide +kernel, by decide, rfl, ⟨by decide +kernel, by decide +kernel⟩, by decide +kernel⟩
def M_country_groundAt : MD := (1, ⟨"SevenLeague$Country", "groundAt", "(I)I"⟩, prog_3_method_5_code, 2, (some .int))
theorem mk_country_groundAt : Mok M_country_groundAt 1 := ⟨gw_mem (p := 783) (by decide +kernel) (by decide +kernel), gw_mem (p := 108) (by decide +kernel) (by decide +kernel), by decide +kernel, by decide, rfl, ⟨by decide +kernel, by decide +kernel⟩, by decide +kernel⟩
def M_country_healable : MD := (1, ⟨"SevenLeague$Country", "healable", "(J)J"⟩, prog_3_method_8_code, 3, (some .long))
theorem mk_country_healable : Mok M_country_healable 1 := ⟨gw_mem (p := 924) (by decide +kernel) (by decide +kernel), gw_mem (p := 108) (by decide +kernel) (by decide +kernel), by decide +kernel, by decide, rfl, ⟨by decide +kernel, by decide +kernel⟩, by decide +kernel⟩
def M_country_highDepth : MD := (1, ⟨"SevenLeague$Country", "highDepth", "(J)J"⟩, prog_3_method_7_code, 3, (some .long))
theorem mk_country_highDepth : Mok M_country_highDepth 1 := ⟨gw_mem (p := 755) (by decide +kernel) (by decide +kernel), gw_mem (p := 108) (by decide +kernel) (by decide +kernel), by decide +kernel, by decide, rfl, ⟨by decide +kernel, by decide +kernel⟩, by decide +kernel⟩
def M_country_inAllFits : MD := (1, ⟨"SevenLeague$Country", "inAllFits", "()I"⟩, prog_3_method_23_code, 4, (some .int))
theorem mk_country_inAllFits : Mok M_country_inAllFits 0 := ⟨gw_mem (p := 1193) (by decide +kernel) (by decide +kernel), gw_mem (p := 108) (by decide +kernel) (by decide +kernel), by decide +kernel, by decide, rfl, ⟨by decide +kernel, by decide +kernel⟩, by decide +kernel⟩
def M_country_inSomeFit : MD := (1, ⟨"SevenLeague$Country", "inSomeFit", "()I"⟩, prog_3_method_22_code, 4, (some .int))
theorem mk_country_inSomeFit : Mok M_country_inSomeFit 0 := ⟨gw_mem (p := 1184) (by decide +kernel) (by decide +kernel), gw_mem (p := 108) (by decide +kernel) (by decide +kernel), by decide +kernel, by decide, rfl, ⟨by decide +kernel, by decide +kernel⟩, by decide +kernel⟩
def M_country_isLost : MD := (1, ⟨"SevenLeague$Country", "isLost", "(IJ)Z"⟩, prog_3_method_10_code, 4, (some .boolean))
theorem mk_country_isLost : Mok M_country_isLost 2 := ⟨gw_mem (p := 802) (by decide +kernel) (by decide +kernel), gw_mem (p := 108) (by decide +kernel) (by decide +kernel), by decide +kernel, by decide, rfl, ⟨by decide +kernel, by decide +kernel⟩, by decide +kernel⟩
def M_country_isRow : MD := (1, ⟨"SevenLeague$Country", "isRow", "(II)Z"⟩, prog_3_method_14_code, 6, (some .boolean))
theorem mk_country_isRow : Mok M_country_isRow 2 := ⟨gw_mem (p := 979) (by decide +kernel) (by decide +kernel), gw_mem (p := 108) (by decide +kernel) (by decide +kernel), by decide +kernel, by decide, rfl, ⟨by decide +kernel, by decide +kernel⟩, by decide +kernel⟩
def M_country_leftBy : MD := (1, ⟨"SevenLeague$Country", "leftBy", "(II)I"⟩, prog_3_method_24_code, 5, (some .int))
theorem mk_country_leftBy : Mok M_country_leftBy 2 := ⟨gw_mem (p := 1205) (by decide +kernel) (by decide +kernel), gw_mem (p := 108) (by decide +kernel) (by decide +kernel), by decide +kernel, by decide, rfl, ⟨by decide +kernel, by decide +kernel⟩, by decide +kernel⟩
def M_country_lostFolk : MD := (1, ⟨"SevenLeague$Country", "lostFolk", "(J)I"⟩, prog_3_method_11_code, 5, (some .int))
theorem mk_country_lostFolk : Mok M_country_lostFolk 1 := ⟨gw_mem (p := 840) (by decide +kernel) (by decide +kernel), gw_mem (p := 108) (by decide +kernel) (by decide +kernel), by decide +kernel, by decide, rfl, ⟨by decide +kernel, by decide +kernel⟩, by decide +kernel⟩
def M_country_lowDepth : MD := (1, ⟨"SevenLeague$Country", "lowDepth", "(J)J"⟩, prog_3_method_6_code, 3, (some .long))
theorem mk_country_lowDepth : Mok M_country_lowDepth 1 := ⟨gw_mem (p := 751) (by decide +kernel) (by decide +kernel), gw_mem (p := 108) (by decide +kernel) (by decide +kernel), by decide +kernel, by decide, rfl, ⟨by decide +kernel, by decide +kernel⟩, by decide +kernel⟩
def M_country_nearestParted : MD := (1, ⟨"SevenLeague$Country", "nearestParted", "(J)I"⟩, prog_3_method_12_code, 8, (some .int))
theorem mk_country_nearestParted : Mok M_country_nearestParted 1 := ⟨gw_mem (p := 891) (by decide +kernel) (by decide +kernel), gw_mem (p := 108) (by decide +kernel) (by decide +kernel), by decide +kernel, by decide, rfl, ⟨by decide +kernel, by decide +kernel⟩, by decide +kernel⟩
def M_country_partsAll : MD := (1, ⟨"SevenLeague$Country", "partsAll", "(I)Z"⟩, prog_3_method_16_code, 3, (some .boolean))
theorem mk_country_partsAll : Mok M_country_partsAll 1 := ⟨gw_mem (p := 1086) (by decide +kernel) (by decide +kernel), gw_mem (p := 108) (by decide +kernel) (by decide +kernel), by decide +kernel, by decide, rfl, ⟨by decide +kernel, by decide +kernel⟩, by decide +kernel⟩
def M_country_placeAt : MD := (1, ⟨"SevenLeague$Country", "placeAt", "(I)I"⟩, prog_3_method_9_code, 2, (some .int))
theorem mk_country_placeAt : Mok M_country_placeAt 1 := ⟨gw_mem (p := 702) (by decide +kernel) (by decide +kernel), gw_mem (p := 108) (by decide +kernel) (by decide +kernel), by decide +kernel, by decide, rfl, ⟨by decide +kernel, by decide +kernel⟩, by decide +kernel⟩
def M_country_setGround : MD := (1, ⟨"SevenLeague$Country", "setGround", "(IJ)V"⟩, prog_3_method_4_code, 4, none)
theorem mk_country_setGround : Mok M_country_setGround 2 := ⟨gw_mem (p := 668) (by decide +kernel) (by decide +kernel), gw_mem (p := 108) (by decide +kernel) (by decide +kernel), by decide +kernel, by decide, rfl, ⟨by decide +kernel, by decide +kernel⟩, by decide +kernel⟩
def M_country_strideUnit : MD := (1, ⟨"SevenLeague$Country", "strideUnit", "()I"⟩, prog_3_method_15_code, 2, (some .int))
theorem mk_country_strideUnit : Mok M_country_strideUnit 0 := ⟨gw_mem (p := 1082) (by decide +kernel) (by decide +kernel), gw_mem (p := 108) (by decide +kernel) (by decide +kernel), by decide +kernel, by decide, rfl, ⟨by decide +kernel, by decide +kernel⟩, by decide +kernel⟩
def M_country_target : MD := (1, ⟨"SevenLeague$Country", "target", "(JII)I"⟩, prog_3_method_13_code, 7, (some .int))
theorem mk_country_target : Mok M_country_target 3 := ⟨gw_mem (p := 721) (by decide +kernel) (by decide +kernel), gw_mem (p := 108) (by decide +kernel) (by decide +kernel), by decide +kernel, by decide, rfl, ⟨by decide +kernel, by decide +kernel⟩, by decide +kernel⟩
def M_country_unlikeSeen : MD := (1, ⟨"SevenLeague$Country", "unlikeSeen", "(J)I"⟩, prog_3_method_20_code, 4, (some .int))
theorem mk_country_unlikeSeen : Mok M_country_unlikeSeen 1 := ⟨gw_mem (p := 1163) (by decide +kernel) (by decide +kernel), gw_mem (p := 108) (by decide +kernel) (by decide +kernel), by decide +kernel, by decide, rfl, ⟨by decide +kernel, by decide +kernel⟩, by decide +kernel⟩
def M_history_forget : MD := (2, ⟨"SevenLeague$History", "forget", "()V"⟩, prog_4_method_2_code, 1, none)
theorem mk_history_forget : Mok M_history_forget 0 := ⟨gw_mem (p := 759) (by decide +kernel) (by decide +kernel), gw_mem (p := 112) (by decide +kernel) (by decide +kernel), by decide +kernel, by decide, rfl, ⟨by decide +kernel, by decide +kernel⟩, by decide +kernel⟩
def M_history_keep : MD := (2, ⟨"SevenLeague$History", "keep", "(LSevenLeague$State;)V"⟩, prog_4_method_3_code, 2, none)
theorem mk_history_keep : Mok M_history_keep 1 := ⟨gw_mem (p := 1277) (by decide +kernel) (by decide +kernel), gw_mem (p := 112) (by decide +kernel) (by decide +kernel), by decide +kernel, by decide, rfl, ⟨by decide +kernel, by decide +kernel⟩, by decide +kernel⟩
def M_history_takeBack : MD := (2, ⟨"SevenLeague$History", "takeBack", "(LSevenLeague$State;)Z"⟩, prog_4_method_4_code, 2, (some .boolean))
theorem mk_history_takeBack : Mok M_history_takeBack 1 := ⟨gw_mem (p := 1311) (by decide +kernel) (by decide +kernel), gw_mem (p := 112) (by decide +kernel) (by decide +kernel), by decide +kernel, by decide, rfl, ⟨by decide +kernel, by decide +kernel⟩, by decide +kernel⟩
def M_ji_bitCount : MD := (12, ⟨"java/lang/Intege\x72", "bitCount", "(I)I"⟩, prog_17_method_49_code, 1, (some .int))
theorem mk_ji_bitCount : Mok M_ji_bitCount 1 := ⟨gw_mem (p := 1166) (by decide +kernel) (by decide +kernel), gw_mem (p := 123) (by decide +kernel) (by decide +kernel), by decide +kernel, by decide, rfl, ⟨by decide +kernel, by decide +kernel⟩, by decide +kernel⟩
def M_jl_bitCount : MD := (13, ⟨"java/lang/Long", "bitCount", "(J)I"⟩, prog_18_method_50_code, 2, (some .int))
theorem mk_jl_bitCount : Mok M_jl_bitCount 1 := ⟨gw_mem (p := 829) (by decide +kernel) (by decide +kernel), gw_mem (p := 122) (by decide +kernel) (by decide +kernel), by decide +kernel, by decide, rfl, ⟨by decide +kernel, by decide +kernel⟩, by decide +kernel⟩
def M_jp_checkIndex : MD := (17, ⟨"jdk/internal/util/Preconditions", "checkIndex", "(IILjava/util/function/BiFunction;)I"⟩, prog_28_method_11_code, 3, (some .int))
theorem mk_jp_checkIndex : Mok M_jp_checkIndex 3 := ⟨gw_mem (p := 593) (by decide +kernel) (by decide +kernel), gw_mem (p := 120) (by decide +kernel) (by decide +kernel), by decide +kernel, by decide, rfl, ⟨by decide +kernel, by decide +kernel⟩, by decide +kernel⟩
def M_js_charAt : MD := (15, ⟨"java/lang/String", "charAt", "(I)C"⟩, prog_21_method_56_code, 2, (some .char))
theorem mk_js_charAt : Mok M_js_charAt 1 := ⟨gw_mem (p := 578) (by decide +kernel) (by decide +kernel), gw_mem (p := 118) (by decide +kernel) (by decide +kernel), by decide +kernel, by decide, rfl, ⟨by decide +kernel, by decide +kernel⟩, by decide +kernel⟩
def M_js_checkIndex : MD := (15, ⟨"java/lang/String", "checkIndex", "(II)V"⟩, prog_21_method_155_code, 2, none)
theorem mk_js_checkIndex : Mok M_js_checkIndex 2 := ⟨gw_mem (p := 588) (by decide +kernel) (by decide +kernel), gw_mem (p := 118) (by decide +kernel) (by decide +kernel), by decide +kernel, by decide, rfl, ⟨by decide +kernel, by decide +kernel⟩, by decide +kernel⟩
def M_js_coder : MD := (15, ⟨"java/lang/String", "code\x72", "()B"⟩, prog_21_method_152_code, 1, (some .byte))
theorem mk_js_coder : Mok M_js_coder 0 := ⟨gw_mem (p := 572) (by decide +kernel) (by decide +kernel), gw_mem (p := 118) (by decide +kernel) (by decide +kernel), by decide +kernel, by decide, rfl, ⟨by decide +kernel, by decide +kernel⟩, by decide +kernel⟩
def M_js_isLatin1 : MD := (15, ⟨"java/lang/String", "isLatin1", "()Z"⟩, prog_21_method_154_code, 1, (some .boolean))
theorem mk_js_isLatin1 : Mok M_js_isLatin1 0 := ⟨gw_mem (p := 582) (by decide +kernel) (by decide +kernel), gw_mem (p := 118) (by decide +kernel) (by decide +kernel), by decide +kernel, by decide, rfl, ⟨by decide +kernel, by decide +kernel⟩, by decide +kernel⟩
def M_js_length : MD := (15, ⟨"java/lang/String", "length", "()I"⟩, prog_21_method_54_code, 1, (some .int))
theorem mk_js_length : Mok M_js_length 0 := ⟨gw_mem (p := 568) (by decide +kernel) (by decide +kernel), gw_mem (p := 118) (by decide +kernel) (by decide +kernel), by decide +kernel, by decide, rfl, ⟨by decide +kernel, by decide +kernel⟩, by decide +kernel⟩
def M_jsl_charAt : MD := (16, ⟨"java/lang/StringLatin1", "charAt", "([BI)C"⟩, prog_22_method_2_code, 2, (some .char))
theorem mk_jsl_charAt : Mok M_jsl_charAt 2 := ⟨gw_mem (p := 585) (by decide +kernel) (by decide +kernel), gw_mem (p := 119) (by decide +kernel) (by decide +kernel), by decide +kernel, by decide, rfl, ⟨by decide +kernel, by decide +kernel⟩, by decide +kernel⟩
def M_m_after : MD := (10, ⟨"SevenLeagueModel", "afte\x72", "(Ljava/lang/String;II)I"⟩, prog_12_method_25_code, 4, (some .int))
theorem mk_m_after : Mok M_m_after 3 := ⟨gw_mem (p := 1626) (by decide +kernel) (by decide +kernel), gw_mem (p := 117) (by decide +kernel) (by decide +kernel), by decide +kernel, by decide, rfl, ⟨by decide +kernel, by decide +kernel⟩, by decide +kernel⟩
def M_m_aheadWhy : MD := (10, ⟨"SevenLeagueModel", "aheadWhy", "(ZI)I"⟩, prog_12_method_43_code, 3, (some .int))
theorem mk_m_aheadWhy : Mok M_m_aheadWhy 2 := ⟨gw_mem (p := 1818) (by decide +kernel) (by decide +kernel), gw_mem (p := 117) (by decide +kernel) (by decide +kernel), by decide +kernel, by decide, rfl, ⟨by decide +kernel, by decide +kernel⟩, by decide +kernel⟩
def M_m_anew : MD := (10, ⟨"SevenLeagueModel", "anew", "()V"⟩, prog_12_method_3_code, 1, none)
theorem mk_m_anew : Mok M_m_anew 0 := ⟨gw_mem (p := 1581) (by decide +kernel) (by decide +kernel), gw_mem (p := 117) (by decide +kernel) (by decide +kernel), by decide +kernel, by decide, rfl, ⟨by decide +kernel, by decide +kernel⟩, by decide +kernel⟩
def M_m_ask : MD := (10, ⟨"SevenLeagueModel", "ask", "()I"⟩, prog_12_method_108_code, 1, (some .int))
theorem mk_m_ask : Mok M_m_ask 0 := ⟨gw_mem (p := 1993) (by decide +kernel) (by decide +kernel), gw_mem (p := 117) (by decide +kernel) (by decide +kernel), by decide +kernel, by decide, rfl, ⟨by decide +kernel, by decide +kernel⟩, by decide +kernel⟩
def M_m_askLeaves : MD := (10, ⟨"SevenLeagueModel", "askLeaves", "()I"⟩, prog_12_method_109_code, 2, (some .int))
theorem mk_m_askLeaves : Mok M_m_askLeaves 0 := ⟨gw_mem (p := 2005) (by decide +kernel) (by decide +kernel), gw_mem (p := 117) (by decide +kernel) (by decide +kernel), by decide +kernel, by decide, rfl, ⟨by decide +kernel, by decide +kernel⟩, by decide +kernel⟩
def M_m_askOf : MD := (10, ⟨"SevenLeagueModel", "askOf", "()I"⟩, prog_12_method_107_code, 3, (some .int))
theorem mk_m_askOf : Mok M_m_askOf 0 := ⟨gw_mem (p := 1997) (by decide +kernel) (by decide +kernel), gw_mem (p := 117) (by decide +kernel) (by decide +kernel), by decide +kernel, by decide, rfl, ⟨by decide +kernel, by decide +kernel⟩, by decide +kernel⟩
def M_m_back : MD := (10, ⟨"SevenLeagueModel", "back", "(I)Z"⟩, prog_12_method_127_code, 2, (some .boolean))
theorem mk_m_back : Mok M_m_back 1 := ⟨gw_mem (p := 2085) (by decide +kernel) (by decide +kernel), gw_mem (p := 117) (by decide +kernel) (by decide +kernel), by decide +kernel, by decide, rfl, ⟨by decide +kernel, by decide +kernel⟩, by decide +kernel⟩
def M_m_backIn : MD := (10, ⟨"SevenLeagueModel", "backIn", "(I)I"⟩, prog_12_method_70_code, 3, (some .int))
theorem mk_m_backIn : Mok M_m_backIn 1 := ⟨gw_mem (p := 1842) (by decide +kernel) (by decide +kernel), gw_mem (p := 117) (by decide +kernel) (by decide +kernel), by decide +kernel, by decide, rfl, ⟨by decide +kernel, by decide +kernel⟩, by decide +kernel⟩
def M_m_begin : MD := (10, ⟨"SevenLeagueModel", "begin", "()V"⟩, prog_12_method_50_code, 1, none)
theorem mk_m_begin : Mok M_m_begin 0 := ⟨gw_mem (p := 1830) (by decide +kernel) (by decide +kernel), gw_mem (p := 117) (by decide +kernel) (by decide +kernel), by decide +kernel, by decide, rfl, ⟨by decide +kernel, by decide +kernel⟩, by decide +kernel⟩
def M_m_begins : MD := (10, ⟨"SevenLeagueModel", "begins", "(Ljava/lang/String;Z)Z"⟩, prog_12_method_28_code, 3, (some .boolean))
theorem mk_m_begins : Mok M_m_begins 2 := ⟨gw_mem (p := 1657) (by decide +kernel) (by decide +kernel), gw_mem (p := 117) (by decide +kernel) (by decide +kernel), by decide +kernel, by decide, rfl, ⟨by decide +kernel, by decide +kernel⟩, by decide +kernel⟩
def M_m_between : MD := (10, ⟨"SevenLeagueModel", "between", "(II)I"⟩, prog_12_method_65_code, 3, (some .int))
theorem mk_m_between : Mok M_m_between 2 := ⟨gw_mem (p := 1797) (by decide +kernel) (by decide +kernel), gw_mem (p := 117) (by decide +kernel) (by decide +kernel), by decide +kernel, by decide, rfl, ⟨by decide +kernel, by decide +kernel⟩, by decide +kernel⟩
def M_m_boots : MD := (10, ⟨"SevenLeagueModel", "boots", "(I)I"⟩, prog_12_method_55_code, 2, (some .int))
theorem mk_m_boots : Mok M_m_boots 1 := ⟨gw_mem (p := 1749) (by decide +kernel) (by decide +kernel), gw_mem (p := 117) (by decide +kernel) (by decide +kernel), by decide +kernel, by decide, rfl, ⟨by decide +kernel, by decide +kernel⟩, by decide +kernel⟩
def M_m_bootsLine : MD := (10, ⟨"SevenLeagueModel", "bootsLine", "()V"⟩, prog_12_method_32_code, 1, none)
theorem mk_m_bootsLine : Mok M_m_bootsLine 0 := ⟨gw_mem (p := 1669) (by decide +kernel) (by decide +kernel), gw_mem (p := 117) (by decide +kernel) (by decide +kernel), by decide +kernel, by decide, rfl, ⟨by decide +kernel, by decide +kernel⟩, by decide +kernel⟩
def M_m_cell : MD := (10, ⟨"SevenLeagueModel", "cell", "(II)I"⟩, prog_12_method_53_code, 3, (some .int))
theorem mk_m_cell : Mok M_m_cell 2 := ⟨gw_mem (p := 1729) (by decide +kernel) (by decide +kernel), gw_mem (p := 117) (by decide +kernel) (by decide +kernel), by decide +kernel, by decide, rfl, ⟨by decide +kernel, by decide +kernel⟩, by decide +kernel⟩
def M_m_cellHere : MD := (10, ⟨"SevenLeagueModel", "cellHere", "()I"⟩, prog_12_method_26_code, 1, (some .int))
theorem mk_m_cellHere : Mok M_m_cellHere 0 := ⟨gw_mem (p := 1694) (by decide +kernel) (by decide +kernel), gw_mem (p := 117) (by decide +kernel) (by decide +kernel), by decide +kernel, by decide, rfl, ⟨by decide +kernel, by decide +kernel⟩, by decide +kernel⟩
def M_m_come : MD := (10, ⟨"SevenLeagueModel", "come", "(I)I"⟩, prog_12_method_84_code, 2, (some .int))
theorem mk_m_come : Mok M_m_come 1 := ⟨gw_mem (p := 1886) (by decide +kernel) (by decide +kernel), gw_mem (p := 117) (by decide +kernel) (by decide +kernel), by decide +kernel, by decide, rfl, ⟨by decide +kernel, by decide +kernel⟩, by decide +kernel⟩
def M_m_comeAt : MD := (10, ⟨"SevenLeagueModel", "comeAt", "(II)I"⟩, prog_12_method_85_code, 5, (some .int))
theorem mk_m_comeAt : Mok M_m_comeAt 2 := ⟨gw_mem (p := 1898) (by decide +kernel) (by decide +kernel), gw_mem (p := 117) (by decide +kernel) (by decide +kernel), by decide +kernel, by decide, rfl, ⟨by decide +kernel, by decide +kernel⟩, by decide +kernel⟩
def M_m_comeRow : MD := (10, ⟨"SevenLeagueModel", "comeRow", "(I)I"⟩, prog_12_method_83_code, 5, (some .int))
theorem mk_m_comeRow : Mok M_m_comeRow 1 := ⟨gw_mem (p := 1902) (by decide +kernel) (by decide +kernel), gw_mem (p := 117) (by decide +kernel) (by decide +kernel), by decide +kernel, by decide, rfl, ⟨by decide +kernel, by decide +kernel⟩, by decide +kernel⟩
def M_m_copy : MD := (10, ⟨"SevenLeagueModel", "copy", "([II[III)V"⟩, prog_12_method_8_code, 6, none)
theorem mk_m_copy : Mok M_m_copy 5 := ⟨gw_mem (p := 1652) (by decide +kernel) (by decide +kernel), gw_mem (p := 117) (by decide +kernel) (by decide +kernel), by decide +kernel, by decide, rfl, ⟨by decide +kernel, by decide +kernel⟩, by decide +kernel⟩
def M_m_costs : MD := (10, ⟨"SevenLeagueModel", "costs", "(II)I"⟩, prog_12_method_75_code, 4, (some .int))
theorem mk_m_costs : Mok M_m_costs 2 := ⟨gw_mem (p := 1862) (by decide +kernel) (by decide +kernel), gw_mem (p := 117) (by decide +kernel) (by decide +kernel), by decide +kernel, by decide, rfl, ⟨by decide +kernel, by decide +kernel⟩, by decide +kernel⟩
def M_m_could : MD := (10, ⟨"SevenLeagueModel", "could", "()I"⟩, prog_12_method_104_code, 1, (some .int))
theorem mk_m_could : Mok M_m_could 0 := ⟨gw_mem (p := 1985) (by decide +kernel) (by decide +kernel), gw_mem (p := 117) (by decide +kernel) (by decide +kernel), by decide +kernel, by decide, rfl, ⟨by decide +kernel, by decide +kernel⟩, by decide +kernel⟩
def M_m_curate : MD := (10, ⟨"SevenLeagueModel", "curate", "()I"⟩, prog_12_method_57_code, 1, (some .int))
theorem mk_m_curate : Mok M_m_curate 0 := ⟨gw_mem (p := 1761) (by decide +kernel) (by decide +kernel), gw_mem (p := 117) (by decide +kernel) (by decide +kernel), by decide +kernel, by decide, rfl, ⟨by decide +kernel, by decide +kernel⟩, by decide +kernel⟩
def M_m_deep : MD := (10, ⟨"SevenLeagueModel", "deep", "(II)I"⟩, prog_12_method_66_code, 5, (some .int))
theorem mk_m_deep : Mok M_m_deep 2 := ⟨gw_mem (p := 1805) (by decide +kernel) (by decide +kernel), gw_mem (p := 117) (by decide +kernel) (by decide +kernel), by decide +kernel, by decide, rfl, ⟨by decide +kernel, by decide +kernel⟩, by decide +kernel⟩
def M_m_digitOn : MD := (10, ⟨"SevenLeagueModel", "digitOn", "([II)Z"⟩, prog_12_method_77_code, 3, (some .boolean))
theorem mk_m_digitOn : Mok M_m_digitOn 2 := ⟨gw_mem (p := 1878) (by decide +kernel) (by decide +kernel), gw_mem (p := 117) (by decide +kernel) (by decide +kernel), by decide +kernel, by decide, rfl, ⟨by decide +kernel, by decide +kernel⟩, by decide +kernel⟩
def M_m_drawn : MD := (10, ⟨"SevenLeagueModel", "drawn", "(III)I"⟩, prog_12_method_119_code, 7, (some .int))
theorem mk_m_drawn : Mok M_m_drawn 3 := ⟨gw_mem (p := 2047) (by decide +kernel) (by decide +kernel), gw_mem (p := 117) (by decide +kernel) (by decide +kernel), by decide +kernel, by decide, rfl, ⟨by decide +kernel, by decide +kernel⟩, by decide +kernel⟩
def M_m_fault : MD := (10, ⟨"SevenLeagueModel", "fault", "()I"⟩, prog_12_method_37_code, 1, (some .int))
theorem mk_m_fault : Mok M_m_fault 0 := ⟨gw_mem (p := 1721) (by decide +kernel) (by decide +kernel), gw_mem (p := 117) (by decide +kernel) (by decide +kernel), by decide +kernel, by decide, rfl, ⟨by decide +kernel, by decide +kernel⟩, by decide +kernel⟩
def M_m_feed : MD := (10, ⟨"SevenLeagueModel", "feed", "(IIIII)I"⟩, prog_12_method_10_code, 8, (some .int))
theorem mk_m_feed : Mok M_m_feed 5 := ⟨gw_mem (p := 1573) (by decide +kernel) (by decide +kernel), gw_mem (p := 117) (by decide +kernel) (by decide +kernel), by decide +kernel, by decide, rfl, ⟨by decide +kernel, by decide +kernel⟩, by decide +kernel⟩
def M_m_fill : MD := (10, ⟨"SevenLeagueModel", "fill", "(I)I"⟩, prog_12_method_124_code, 3, (some .int))
theorem mk_m_fill : Mok M_m_fill 1 := ⟨gw_mem (p := 2069) (by decide +kernel) (by decide +kernel), gw_mem (p := 117) (by decide +kernel) (by decide +kernel), by decide +kernel, by decide, rfl, ⟨by decide +kernel, by decide +kernel⟩, by decide +kernel⟩
def M_m_find : MD := (10, ⟨"SevenLeagueModel", "find", "()I"⟩, prog_12_method_20_code, 4, (some .int))
theorem mk_m_find : Mok M_m_find 0 := ⟨gw_mem (p := 1685) (by decide +kernel) (by decide +kernel), gw_mem (p := 117) (by decide +kernel) (by decide +kernel), by decide +kernel, by decide, rfl, ⟨by decide +kernel, by decide +kernel⟩, by decide +kernel⟩
def M_m_fitAt : MD := (10, ⟨"SevenLeagueModel", "fitAt", "(I)I"⟩, prog_12_method_103_code, 3, (some .int))
theorem mk_m_fitAt : Mok M_m_fitAt 1 := ⟨gw_mem (p := 1981) (by decide +kernel) (by decide +kernel), gw_mem (p := 117) (by decide +kernel) (by decide +kernel), by decide +kernel, by decide, rfl, ⟨by decide +kernel, by decide +kernel⟩, by decide +kernel⟩
def M_m_fits : MD := (10, ⟨"SevenLeagueModel", "fits", "()I"⟩, prog_12_method_102_code, 1, (some .int))
theorem mk_m_fits : Mok M_m_fits 0 := ⟨gw_mem (p := 1969) (by decide +kernel) (by decide +kernel), gw_mem (p := 117) (by decide +kernel) (by decide +kernel), by decide +kernel, by decide, rfl, ⟨by decide +kernel, by decide +kernel⟩, by decide +kernel⟩
def M_m_goes : MD := (10, ⟨"SevenLeagueModel", "goes", "(IZZZ)I"⟩, prog_12_method_112_code, 6, (some .int))
theorem mk_m_goes : Mok M_m_goes 4 := ⟨gw_mem (p := 2013) (by decide +kernel) (by decide +kernel), gw_mem (p := 117) (by decide +kernel) (by decide +kernel), by decide +kernel, by decide, rfl, ⟨by decide +kernel, by decide +kernel⟩, by decide +kernel⟩
def M_m_goesOf : MD := (10, ⟨"SevenLeagueModel", "goesOf", "(IZZ)I"⟩, prog_12_method_111_code, 3, (some .int))
theorem mk_m_goesOf : Mok M_m_goesOf 3 := ⟨gw_mem (p := 2016) (by decide +kernel) (by decide +kernel), gw_mem (p := 117) (by decide +kernel) (by decide +kernel), by decide +kernel, by decide, rfl, ⟨by decide +kernel, by decide +kernel⟩, by decide +kernel⟩
def M_m_gone : MD := (10, ⟨"SevenLeagueModel", "gone", "()I"⟩, prog_12_method_58_code, 1, (some .int))
theorem mk_m_gone : Mok M_m_gone 0 := ⟨gw_mem (p := 1765) (by decide +kernel) (by decide +kernel), gw_mem (p := 117) (by decide +kernel) (by decide +kernel), by decide +kernel, by decide, rfl, ⟨by decide +kernel, by decide +kernel⟩, by decide +kernel⟩
def M_m_goneFrom : MD := (10, ⟨"SevenLeagueModel", "goneFrom", "(II)I"⟩, prog_12_method_64_code, 5, (some .int))
theorem mk_m_goneFrom : Mok M_m_goneFrom 2 := ⟨gw_mem (p := 1801) (by decide +kernel) (by decide +kernel), gw_mem (p := 117) (by decide +kernel) (by decide +kernel), by decide +kernel, by decide, rfl, ⟨by decide +kernel, by decide +kernel⟩, by decide +kernel⟩
def M_m_goneIn : MD := (10, ⟨"SevenLeagueModel", "goneIn", "(I)I"⟩, prog_12_method_68_code, 3, (some .int))
theorem mk_m_goneIn : Mok M_m_goneIn 1 := ⟨gw_mem (p := 1814) (by decide +kernel) (by decide +kernel), gw_mem (p := 117) (by decide +kernel) (by decide +kernel), by decide +kernel, by decide, rfl, ⟨by decide +kernel, by decide +kernel⟩, by decide +kernel⟩
def M_m_goneOn : MD := (10, ⟨"SevenLeagueModel", "goneOn", "([I)I"⟩, prog_12_method_48_code, 4, (some .int))
theorem mk_m_goneOn : Mok M_m_goneOn 1 := ⟨gw_mem (p := 1769) (by decide +kernel) (by decide +kernel), gw_mem (p := 117) (by decide +kernel) (by decide +kernel), by decide +kernel, by decide, rfl, ⟨by decide +kernel, by decide +kernel⟩, by decide +kernel⟩
def M_m_groundLine : MD := (10, ⟨"SevenLeagueModel", "groundLine", "()V"⟩, prog_12_method_31_code, 5, none)
theorem mk_m_groundLine : Mok M_m_groundLine 0 := ⟨gw_mem (p := 1661) (by decide +kernel) (by decide +kernel), gw_mem (p := 117) (by decide +kernel) (by decide +kernel), by decide +kernel, by decide, rfl, ⟨by decide +kernel, by decide +kernel⟩, by decide +kernel⟩
def M_m_hasBit : MD := (10, ⟨"SevenLeagueModel", "hasBit", "(II)Z"⟩, prog_12_method_7_code, 2, (some .boolean))
theorem mk_m_hasBit : Mok M_m_hasBit 2 := ⟨gw_mem (p := 1961) (by decide +kernel) (by decide +kernel), gw_mem (p := 117) (by decide +kernel) (by decide +kernel), by decide +kernel, by decide, rfl, ⟨by decide +kernel, by decide +kernel⟩, by decide +kernel⟩
def M_m_image : MD := (10, ⟨"SevenLeagueModel", "image", "()I"⟩, prog_12_method_126_code, 1, (some .int))
theorem mk_m_image : Mok M_m_image 0 := ⟨gw_mem (p := 2081) (by decide +kernel) (by decide +kernel), gw_mem (p := 117) (by decide +kernel) (by decide +kernel), by decide +kernel, by decide, rfl, ⟨by decide +kernel, by decide +kernel⟩, by decide +kernel⟩
def M_m_in : MD := (10, ⟨"SevenLeagueModel", "in", "(III)Z"⟩, prog_12_method_6_code, 3, (some .boolean))
theorem mk_m_in : Mok M_m_in 3 := ⟨gw_mem (p := 1584) (by decide +kernel) (by decide +kernel), gw_mem (p := 117) (by decide +kernel) (by decide +kernel), by decide +kernel, by decide, rfl, ⟨by decide +kernel, by decide +kernel⟩, by decide +kernel⟩
def M_m_isBoots : MD := (10, ⟨"SevenLeagueModel", "isBoots", "(I)Z"⟩, prog_12_method_41_code, 2, (some .boolean))
theorem mk_m_isBoots : Mok M_m_isBoots 1 := ⟨gw_mem (p := 1753) (by decide +kernel) (by decide +kernel), gw_mem (p := 117) (by decide +kernel) (by decide +kernel), by decide +kernel, by decide, rfl, ⟨by decide +kernel, by decide +kernel⟩, by decide +kernel⟩
def M_m_isCell : MD := (10, ⟨"SevenLeagueModel", "isCell", "(I)Z"⟩, prog_12_method_39_code, 2, (some .boolean))
theorem mk_m_isCell : Mok M_m_isCell 1 := ⟨gw_mem (p := 1733) (by decide +kernel) (by decide +kernel), gw_mem (p := 117) (by decide +kernel) (by decide +kernel), by decide +kernel, by decide, rfl, ⟨by decide +kernel, by decide +kernel⟩, by decide +kernel⟩
def M_m_isDigit : MD := (10, ⟨"SevenLeagueModel", "isDigit", "(I)Z"⟩, prog_12_method_13_code, 1, (some .boolean))
theorem mk_m_isDigit : Mok M_m_isDigit 1 := ⟨gw_mem (p := 1602) (by decide +kernel) (by decide +kernel), gw_mem (p := 117) (by decide +kernel) (by decide +kernel), by decide +kernel, by decide, rfl, ⟨by decide +kernel, by decide +kernel⟩, by decide +kernel⟩
def M_m_isNot : MD := (10, ⟨"SevenLeagueModel", "isNot", "(I)Z"⟩, prog_12_method_5_code, 2, (some .boolean))
theorem mk_m_isNot : Mok M_m_isNot 1 := ⟨gw_mem (p := 2077) (by decide +kernel) (by decide +kernel), gw_mem (p := 117) (by decide +kernel) (by decide +kernel), by decide +kernel, by decide, rfl, ⟨by decide +kernel, by decide +kernel⟩, by decide +kernel⟩
def M_m_isPlace : MD := (10, ⟨"SevenLeagueModel", "isPlace", "(I)Z"⟩, prog_12_method_40_code, 2, (some .boolean))
theorem mk_m_isPlace : Mok M_m_isPlace 1 := ⟨gw_mem (p := 1745) (by decide +kernel) (by decide +kernel), gw_mem (p := 117) (by decide +kernel) (by decide +kernel), by decide +kernel, by decide, rfl, ⟨by decide +kernel, by decide +kernel⟩, by decide +kernel⟩
def M_m_isSmall : MD := (10, ⟨"SevenLeagueModel", "isSmall", "(I)Z"⟩, prog_12_method_12_code, 1, (some .boolean))
theorem mk_m_isSmall : Mok M_m_isSmall 1 := ⟨gw_mem (p := 1599) (by decide +kernel) (by decide +kernel), gw_mem (p := 117) (by decide +kernel) (by decide +kernel), by decide +kernel, by decide, rfl, ⟨by decide +kernel, by decide +kernel⟩, by decide +kernel⟩
def M_m_isWord : MD := (10, ⟨"SevenLeagueModel", "isWord", "(Ljava/lang/String;)Z"⟩, prog_12_method_16_code, 4, (some .boolean))
theorem mk_m_isWord : Mok M_m_isWord 1 := ⟨gw_mem (p := 1611) (by decide +kernel) (by decide +kernel), gw_mem (p := 117) (by decide +kernel) (by decide +kernel), by decide +kernel, by decide, rfl, ⟨by decide +kernel, by decide +kernel⟩, by decide +kernel⟩
def M_m_judge : MD := (10, ⟨"SevenLeagueModel", "judge", "()I"⟩, prog_12_method_110_code, 1, (some .int))
theorem mk_m_judge : Mok M_m_judge 0 := ⟨gw_mem (p := 2009) (by decide +kernel) (by decide +kernel), gw_mem (p := 117) (by decide +kernel) (by decide +kernel), by decide +kernel, by decide, rfl, ⟨by decide +kernel, by decide +kernel⟩, by decide +kernel⟩
def M_m_land : MD := (10, ⟨"SevenLeagueModel", "land", "(I)I"⟩, prog_12_method_27_code, 3, (some .int))
theorem mk_m_land : Mok M_m_land 1 := ⟨gw_mem (p := 1577) (by decide +kernel) (by decide +kernel), gw_mem (p := 117) (by decide +kernel) (by decide +kernel), by decide +kernel, by decide, rfl, ⟨by decide +kernel, by decide +kernel⟩, by decide +kernel⟩
def M_m_landLine : MD := (10, ⟨"SevenLeagueModel", "landLine", "()V"⟩, prog_12_method_30_code, 1, none)
theorem mk_m_landLine : Mok M_m_landLine 0 := ⟨gw_mem (p := 1617) (by decide +kernel) (by decide +kernel), gw_mem (p := 117) (by decide +kernel) (by decide +kernel), by decide +kernel, by decide, rfl, ⟨by decide +kernel, by decide +kernel⟩, by decide +kernel⟩
def M_m_laySums : MD := (10, ⟨"SevenLeagueModel", "laySums", "()V"⟩, prog_12_method_89_code, 3, none)
theorem mk_m_laySums : Mok M_m_laySums 0 := ⟨gw_mem (p := 1922) (by decide +kernel) (by decide +kernel), gw_mem (p := 117) (by decide +kernel) (by decide +kernel), by decide +kernel, by decide, rfl, ⟨by decide +kernel, by decide +kernel⟩, by decide +kernel⟩
def M_m_leadOf : MD := (10, ⟨"SevenLeagueModel", "leadOf", "([I[III)I"⟩, prog_12_method_44_code, 5, (some .int))
theorem mk_m_leadOf : Mok M_m_leadOf 4 := ⟨gw_mem (p := 1707) (by decide +kernel) (by decide +kernel), gw_mem (p := 117) (by decide +kernel) (by decide +kernel), by decide +kernel, by decide, rfl, ⟨by decide +kernel, by decide +kernel⟩, by decide +kernel⟩
def M_m_leads : MD := (10, ⟨"SevenLeagueModel", "leads", "(II)I"⟩, prog_12_method_73_code, 4, (some .int))
theorem mk_m_leads : Mok M_m_leads 2 := ⟨gw_mem (p := 1850) (by decide +kernel) (by decide +kernel), gw_mem (p := 117) (by decide +kernel) (by decide +kernel), by decide +kernel, by decide, rfl, ⟨by decide +kernel, by decide +kernel⟩, by decide +kernel⟩
def M_m_leavesOf : MD := (10, ⟨"SevenLeagueModel", "leavesOf", "(I)I"⟩, prog_12_method_106_code, 2, (some .int))
theorem mk_m_leavesOf : Mok M_m_leavesOf 1 := ⟨gw_mem (p := 2001) (by decide +kernel) (by decide +kernel), gw_mem (p := 117) (by decide +kernel) (by decide +kernel), by decide +kernel, by decide, rfl, ⟨by decide +kernel, by decide +kernel⟩, by decide +kernel⟩
def M_m_led : MD := (10, ⟨"SevenLeagueModel", "led", "(I)I"⟩, prog_12_method_128_code, 4, (some .int))
theorem mk_m_led : Mok M_m_led 1 := ⟨gw_mem (p := 2089) (by decide +kernel) (by decide +kernel), gw_mem (p := 117) (by decide +kernel) (by decide +kernel), by decide +kernel, by decide, rfl, ⟨by decide +kernel, by decide +kernel⟩, by decide +kernel⟩
def M_m_longest : MD := (10, ⟨"SevenLeagueModel", "longest", "()I"⟩, prog_12_method_62_code, 1, (some .int))
theorem mk_m_longest : Mok M_m_longest 0 := ⟨gw_mem (p := 1789) (by decide +kernel) (by decide +kernel), gw_mem (p := 117) (by decide +kernel) (by decide +kernel), by decide +kernel, by decide, rfl, ⟨by decide +kernel, by decide +kernel⟩, by decide +kernel⟩
def M_m_lost : MD := (10, ⟨"SevenLeagueModel", "lost", "()I"⟩, prog_12_method_59_code, 1, (some .int))
theorem mk_m_lost : Mok M_m_lost 0 := ⟨gw_mem (p := 1773) (by decide +kernel) (by decide +kernel), gw_mem (p := 117) (by decide +kernel) (by decide +kernel), by decide +kernel, by decide, rfl, ⟨by decide +kernel, by decide +kernel⟩, by decide +kernel⟩
def M_m_lostIn : MD := (10, ⟨"SevenLeagueModel", "lostIn", "(I)I"⟩, prog_12_method_69_code, 3, (some .int))
theorem mk_m_lostIn : Mok M_m_lostIn 1 := ⟨gw_mem (p := 1838) (by decide +kernel) (by decide +kernel), gw_mem (p := 117) (by decide +kernel) (by decide +kernel), by decide +kernel, by decide, rfl, ⟨by decide +kernel, by decide +kernel⟩, by decide +kernel⟩
def M_m_lostOn : MD := (10, ⟨"SevenLeagueModel", "lostOn", "([I)I"⟩, prog_12_method_49_code, 4, (some .int))
theorem mk_m_lostOn : Mok M_m_lostOn 1 := ⟨gw_mem (p := 1777) (by decide +kernel) (by decide +kernel), gw_mem (p := 117) (by decide +kernel) (by decide +kernel), by decide +kernel, by decide, rfl, ⟨by decide +kernel, by decide +kernel⟩, by decide +kernel⟩
def M_m_lowest : MD := (10, ⟨"SevenLeagueModel", "lowest", "(JJZ)J"⟩, prog_12_method_9_code, 11, (some .long))
theorem mk_m_lowest : Mok M_m_lowest 3 := ⟨gw_mem (p := 2039) (by decide +kernel) (by decide +kernel), gw_mem (p := 117) (by decide +kernel) (by decide +kernel), by decide +kernel, by decide, rfl, ⟨by decide +kernel, by decide +kernel⟩, by decide +kernel⟩
def M_m_makes : MD := (10, ⟨"SevenLeagueModel", "makes", "(I)Z"⟩, prog_12_method_78_code, 3, (some .boolean))
theorem mk_m_makes : Mok M_m_makes 1 := ⟨gw_mem (p := 1874) (by decide +kernel) (by decide +kernel), gw_mem (p := 117) (by decide +kernel) (by decide +kernel), by decide +kernel, by decide, rfl, ⟨by decide +kernel, by decide +kernel⟩, by decide +kernel⟩
def M_m_mean : MD := (10, ⟨"SevenLeagueModel", "mean", "(IIZ)J"⟩, prog_12_method_118_code, 5, (some .long))
theorem mk_m_mean : Mok M_m_mean 3 := ⟨gw_mem (p := 2043) (by decide +kernel) (by decide +kernel), gw_mem (p := 117) (by decide +kernel) (by decide +kernel), by decide +kernel, by decide, rfl, ⟨by decide +kernel, by decide +kernel⟩, by decide +kernel⟩
def M_m_must : MD := (10, ⟨"SevenLeagueModel", "must", "(Ljava/lang/String;)V"⟩, prog_12_method_18_code, 2, none)
theorem mk_m_must : Mok M_m_must 1 := ⟨gw_mem (p := 1630) (by decide +kernel) (by decide +kernel), gw_mem (p := 117) (by decide +kernel) (by decide +kernel), by decide +kernel, by decide, rfl, ⟨by decide +kernel, by decide +kernel⟩, by decide +kernel⟩
def M_m_mustName : MD := (10, ⟨"SevenLeagueModel", "mustName", "()V"⟩, prog_12_method_19_code, 1, none)
theorem mk_m_mustName : Mok M_m_mustName 0 := ⟨gw_mem (p := 1677) (by decide +kernel) (by decide +kernel), gw_mem (p := 117) (by decide +kernel) (by decide +kernel), by decide +kernel, by decide, rfl, ⟨by decide +kernel, by decide +kernel⟩, by decide +kernel⟩
def M_m_nearest : MD := (10, ⟨"SevenLeagueModel", "nearest", "()I"⟩, prog_12_method_67_code, 8, (some .int))
theorem mk_m_nearest : Mok M_m_nearest 0 := ⟨gw_mem (p := 1809) (by decide +kernel) (by decide +kernel), gw_mem (p := 117) (by decide +kernel) (by decide +kernel), by decide +kernel, by decide, rfl, ⟨by decide +kernel, by decide +kernel⟩, by decide +kernel⟩
def M_m_never : MD := (10, ⟨"SevenLeagueModel", "neve\x72", "()I"⟩, prog_12_method_92_code, 2, (some .int))
theorem mk_m_never : Mok M_m_never 0 := ⟨gw_mem (p := 1930) (by decide +kernel) (by decide +kernel), gw_mem (p := 117) (by decide +kernel) (by decide +kernel), by decide +kernel, by decide, rfl, ⟨by decide +kernel, by decide +kernel⟩, by decide +kernel⟩
def M_m_newName : MD := (10, ⟨"SevenLeagueModel", "newName", "(I)V"⟩, prog_12_method_21_code, 3, none)
theorem mk_m_newName : Mok M_m_newName 1 := ⟨gw_mem (p := 1673) (by decide +kernel) (by decide +kernel), gw_mem (p := 117) (by decide +kernel) (by decide +kernel), by decide +kernel, by decide, rfl, ⟨by decide +kernel, by decide +kernel⟩, by decide +kernel⟩
def M_m_next : MD := (10, ⟨"SevenLeagueModel", "next", "()V"⟩, prog_12_method_14_code, 4, none)
theorem mk_m_next : Mok M_m_next 0 := ⟨gw_mem (p := 1592) (by decide +kernel) (by decide +kernel), gw_mem (p := 117) (by decide +kernel) (by decide +kernel), by decide +kernel, by decide, rfl, ⟨by decide +kernel, by decide +kernel⟩, by decide +kernel⟩
def M_m_no : MD := (10, ⟨"SevenLeagueModel", "no", "(I)I"⟩, prog_12_method_4_code, 2, (some .int))
theorem mk_m_no : Mok M_m_no 1 := ⟨gw_mem (p := 1588) (by decide +kernel) (by decide +kernel), gw_mem (p := 117) (by decide +kernel) (by decide +kernel), by decide +kernel, by decide, rfl, ⟨by decide +kernel, by decide +kernel⟩, by decide +kernel⟩
def M_m_note : MD := (10, ⟨"SevenLeagueModel", "note", "()V"⟩, prog_12_method_120_code, 2, none)
theorem mk_m_note : Mok M_m_note 0 := ⟨gw_mem (p := 2057) (by decide +kernel) (by decide +kernel), gw_mem (p := 117) (by decide +kernel) (by decide +kernel), by decide +kernel, by decide, rfl, ⟨by decide +kernel, by decide +kernel⟩, by decide +kernel⟩
def M_m_number : MD := (10, ⟨"SevenLeagueModel", "numbe\x72", "(II)I"⟩, prog_12_method_24_code, 4, (some .int))
theorem mk_m_number : Mok M_m_number 2 := ⟨gw_mem (p := 1638) (by decide +kernel) (by decide +kernel), gw_mem (p := 117) (by decide +kernel) (by decide +kernel), by decide +kernel, by decide, rfl, ⟨by decide +kernel, by decide +kernel⟩, by decide +kernel⟩
def M_m_numberHere : MD := (10, ⟨"SevenLeagueModel", "numberHere", "(II)I"⟩, prog_12_method_23_code, 3, (some .int))
theorem mk_m_numberHere : Mok M_m_numberHere 2 := ⟨gw_mem (p := 1642) (by decide +kernel) (by decide +kernel), gw_mem (p := 117) (by decide +kernel) (by decide +kernel), by decide +kernel, by decide, rfl, ⟨by decide +kernel, by decide +kernel⟩, by decide +kernel⟩
def M_m_odds : MD := (10, ⟨"SevenLeagueModel", "odds", "(IIIZ)J"⟩, prog_12_method_117_code, 6, (some .long))
theorem mk_m_odds : Mok M_m_odds 4 := ⟨gw_mem (p := 2032) (by decide +kernel) (by decide +kernel), gw_mem (p := 117) (by decide +kernel) (by decide +kernel), by decide +kernel, by decide, rfl, ⟨by decide +kernel, by decide +kernel⟩, by decide +kernel⟩
def M_m_over : MD := (10, ⟨"SevenLeagueModel", "ove\x72", "(I)I"⟩, prog_12_method_91_code, 6, (some .int))
theorem mk_m_over : Mok M_m_over 1 := ⟨gw_mem (p := 1926) (by decide +kernel) (by decide +kernel), gw_mem (p := 117) (by decide +kernel) (by decide +kernel), by decide +kernel, by decide, rfl, ⟨by decide +kernel, by decide +kernel⟩, by decide +kernel⟩
def M_m_pass : MD := (10, ⟨"SevenLeagueModel", "pass", "()V"⟩, prog_12_method_22_code, 1, none)
theorem mk_m_pass : Mok M_m_pass 0 := ⟨gw_mem (p := 1646) (by decide +kernel) (by decide +kernel), gw_mem (p := 117) (by decide +kernel) (by decide +kernel), by decide +kernel, by decide, rfl, ⟨by decide +kernel, by decide +kernel⟩, by decide +kernel⟩
def M_m_passes : MD := (10, ⟨"SevenLeagueModel", "passes", "(II)I"⟩, prog_12_method_74_code, 4, (some .int))
theorem mk_m_passes : Mok M_m_passes 2 := ⟨gw_mem (p := 1858) (by decide +kernel) (by decide +kernel), gw_mem (p := 117) (by decide +kernel) (by decide +kernel), by decide +kernel, by decide, rfl, ⟨by decide +kernel, by decide +kernel⟩, by decide +kernel⟩
def M_m_place : MD := (10, ⟨"SevenLeagueModel", "place", "(II)I"⟩, prog_12_method_54_code, 3, (some .int))
theorem mk_m_place : Mok M_m_place 2 := ⟨gw_mem (p := 1741) (by decide +kernel) (by decide +kernel), gw_mem (p := 117) (by decide +kernel) (by decide +kernel), by decide +kernel, by decide, rfl, ⟨by decide +kernel, by decide +kernel⟩, by decide +kernel⟩
def M_m_placeAt : MD := (10, ⟨"SevenLeagueModel", "placeAt", "(I)I"⟩, prog_12_method_52_code, 3, (some .int))
theorem mk_m_placeAt : Mok M_m_placeAt 1 := ⟨gw_mem (p := 1737) (by decide +kernel) (by decide +kernel), gw_mem (p := 117) (by decide +kernel) (by decide +kernel), by decide +kernel, by decide, rfl, ⟨by decide +kernel, by decide +kernel⟩, by decide +kernel⟩
def M_m_placeLine : MD := (10, ⟨"SevenLeagueModel", "placeLine", "()V"⟩, prog_12_method_33_code, 4, none)
theorem mk_m_placeLine : Mok M_m_placeLine 0 := ⟨gw_mem (p := 1689) (by decide +kernel) (by decide +kernel), gw_mem (p := 117) (by decide +kernel) (by decide +kernel), by decide +kernel, by decide, rfl, ⟨by decide +kernel, by decide +kernel⟩, by decide +kernel⟩
def M_m_reach : MD := (10, ⟨"SevenLeagueModel", "reach", "(I)I"⟩, prog_12_method_88_code, 5, (some .int))
theorem mk_m_reach : Mok M_m_reach 1 := ⟨gw_mem (p := 1914) (by decide +kernel) (by decide +kernel), gw_mem (p := 117) (by decide +kernel) (by decide +kernel), by decide +kernel, by decide, rfl, ⟨by decide +kernel, by decide +kernel⟩, by decide +kernel⟩
def M_m_readLine : MD := (10, ⟨"SevenLeagueModel", "readLine", "()V"⟩, prog_12_method_29_code, 1, none)
theorem mk_m_readLine : Mok M_m_readLine 0 := ⟨gw_mem (p := 1606) (by decide +kernel) (by decide +kernel), gw_mem (p := 117) (by decide +kernel) (by decide +kernel), by decide +kernel, by decide, rfl, ⟨by decide +kernel, by decide +kernel⟩, by decide +kernel⟩
def M_m_rest : MD := (10, ⟨"SevenLeagueModel", "rest", "(I)I"⟩, prog_12_method_115_code, 3, (some .int))
theorem mk_m_rest : Mok M_m_rest 1 := ⟨gw_mem (p := 2028) (by decide +kernel) (by decide +kernel), gw_mem (p := 117) (by decide +kernel) (by decide +kernel), by decide +kernel, by decide, rfl, ⟨by decide +kernel, by decide +kernel⟩, by decide +kernel⟩
def M_m_rests : MD := (10, ⟨"SevenLeagueModel", "rests", "(I)I"⟩, prog_12_method_114_code, 3, (some .int))
theorem mk_m_rests : Mok M_m_rests 1 := ⟨gw_mem (p := 2020) (by decide +kernel) (by decide +kernel), gw_mem (p := 117) (by decide +kernel) (by decide +kernel), by decide +kernel, by decide, rfl, ⟨by decide +kernel, by decide +kernel⟩, by decide +kernel⟩
def M_m_rowLeads : MD := (10, ⟨"SevenLeagueModel", "rowLeads", "(II)I"⟩, prog_12_method_79_code, 4, (some .int))
theorem mk_m_rowLeads : Mok M_m_rowLeads 2 := ⟨gw_mem (p := 1866) (by decide +kernel) (by decide +kernel), gw_mem (p := 117) (by decide +kernel) (by decide +kernel), by decide +kernel, by decide, rfl, ⟨by decide +kernel, by decide +kernel⟩, by decide +kernel⟩
def M_m_rowLost : MD := (10, ⟨"SevenLeagueModel", "rowLost", "(II)I"⟩, prog_12_method_80_code, 4, (some .int))
theorem mk_m_rowLost : Mok M_m_rowLost 2 := ⟨gw_mem (p := 1882) (by decide +kernel) (by decide +kernel), gw_mem (p := 117) (by decide +kernel) (by decide +kernel), by decide +kernel, by decide, rfl, ⟨by decide +kernel, by decide +kernel⟩, by decide +kernel⟩
def M_m_rowWhy : MD := (10, ⟨"SevenLeagueModel", "rowWhy", "(ZII)I"⟩, prog_12_method_76_code, 6, (some .int))
theorem mk_m_rowWhy : Mok M_m_rowWhy 3 := ⟨gw_mem (p := 1870) (by decide +kernel) (by decide +kernel), gw_mem (p := 117) (by decide +kernel) (by decide +kernel), by decide +kernel, by decide, rfl, ⟨by decide +kernel, by decide +kernel⟩, by decide +kernel⟩
def M_m_see : MD := (10, ⟨"SevenLeagueModel", "see", "(I)I"⟩, prog_12_method_11_code, 2, (some .int))
theorem mk_m_see : Mok M_m_see 1 := ⟨gw_mem (p := 1596) (by decide +kernel) (by decide +kernel), gw_mem (p := 117) (by decide +kernel) (by decide +kernel), by decide +kernel, by decide, rfl, ⟨by decide +kernel, by decide +kernel⟩, by decide +kernel⟩
def M_m_seekRests : MD := (10, ⟨"SevenLeagueModel", "seekRests", "(I)I"⟩, prog_12_method_113_code, 6, (some .int))
theorem mk_m_seekRests : Mok M_m_seekRests 1 := ⟨gw_mem (p := 2024) (by decide +kernel) (by decide +kernel), gw_mem (p := 117) (by decide +kernel) (by decide +kernel), by decide +kernel, by decide, rfl, ⟨by decide +kernel, by decide +kernel⟩, by decide +kernel⟩
def M_m_seekRows : MD := (10, ⟨"SevenLeagueModel", "seekRows", "(II)V"⟩, prog_12_method_82_code, 4, none)
theorem mk_m_seekRows : Mok M_m_seekRows 2 := ⟨gw_mem (p := 1890) (by decide +kernel) (by decide +kernel), gw_mem (p := 117) (by decide +kernel) (by decide +kernel), by decide +kernel, by decide, rfl, ⟨by decide +kernel, by decide +kernel⟩, by decide +kernel⟩
def M_m_seekRuns : MD := (10, ⟨"SevenLeagueModel", "seekRuns", "(Z)V"⟩, prog_12_method_60_code, 5, none)
theorem mk_m_seekRuns : Mok M_m_seekRuns 1 := ⟨gw_mem (p := 1785) (by decide +kernel) (by decide +kernel), gw_mem (p := 117) (by decide +kernel) (by decide +kernel), by decide +kernel, by decide, rfl, ⟨by decide +kernel, by decide +kernel⟩, by decide +kernel⟩
def M_m_seekSets : MD := (10, ⟨"SevenLeagueModel", "seekSets", "(I)I"⟩, prog_12_method_101_code, 5, (some .int))
theorem mk_m_seekSets : Mok M_m_seekSets 1 := ⟨gw_mem (p := 1973) (by decide +kernel) (by decide +kernel), gw_mem (p := 117) (by decide +kernel) (by decide +kernel), by decide +kernel, by decide, rfl, ⟨by decide +kernel, by decide +kernel⟩, by decide +kernel⟩
def M_m_seekTour : MD := (10, ⟨"SevenLeagueModel", "seekTou\x72", "(I)V"⟩, prog_12_method_94_code, 5, none)
theorem mk_m_seekTour : Mok M_m_seekTour 1 := ⟨gw_mem (p := 1942) (by decide +kernel) (by decide +kernel), gw_mem (p := 117) (by decide +kernel) (by decide +kernel), by decide +kernel, by decide, rfl, ⟨by decide +kernel, by decide +kernel⟩, by decide +kernel⟩
def M_m_seenLine : MD := (10, ⟨"SevenLeagueModel", "seenLine", "()V"⟩, prog_12_method_36_code, 4, none)
theorem mk_m_seenLine : Mok M_m_seenLine 0 := ⟨gw_mem (p := 1715) (by decide +kernel) (by decide +kernel), gw_mem (p := 117) (by decide +kernel) (by decide +kernel), by decide +kernel, by decide, rfl, ⟨by decide +kernel, by decide +kernel⟩, by decide +kernel⟩
def M_m_size : MD := (10, ⟨"SevenLeagueModel", "size", "(I)I"⟩, prog_12_method_129_code, 2, (some .int))
theorem mk_m_size : Mok M_m_size 1 := ⟨gw_mem (p := 2093) (by decide +kernel) (by decide +kernel), gw_mem (p := 117) (by decide +kernel) (by decide +kernel), by decide +kernel, by decide, rfl, ⟨by decide +kernel, by decide +kernel⟩, by decide +kernel⟩
def M_m_son : MD := (10, ⟨"SevenLeagueModel", "son", "()I"⟩, prog_12_method_56_code, 1, (some .int))
theorem mk_m_son : Mok M_m_son 0 := ⟨gw_mem (p := 1757) (by decide +kernel) (by decide +kernel), gw_mem (p := 117) (by decide +kernel) (by decide +kernel), by decide +kernel, by decide, rfl, ⟨by decide +kernel, by decide +kernel⟩, by decide +kernel⟩
def M_m_spare : MD := (10, ⟨"SevenLeagueModel", "spare", "(I)I"⟩, prog_12_method_86_code, 2, (some .int))
theorem mk_m_spare : Mok M_m_spare 1 := ⟨gw_mem (p := 1906) (by decide +kernel) (by decide +kernel), gw_mem (p := 117) (by decide +kernel) (by decide +kernel), by decide +kernel, by decide, rfl, ⟨by decide +kernel, by decide +kernel⟩, by decide +kernel⟩
def M_m_spareRow : MD := (10, ⟨"SevenLeagueModel", "spareRow", "(I)I"⟩, prog_12_method_87_code, 2, (some .int))
theorem mk_m_spareRow : Mok M_m_spareRow 1 := ⟨gw_mem (p := 1910) (by decide +kernel) (by decide +kernel), gw_mem (p := 117) (by decide +kernel) (by decide +kernel), by decide +kernel, by decide, rfl, ⟨by decide +kernel, by decide +kernel⟩, by decide +kernel⟩
def M_m_step : MD := (10, ⟨"SevenLeagueModel", "step", "(I)I"⟩, prog_12_method_122_code, 3, (some .int))
theorem mk_m_step : Mok M_m_step 1 := ⟨gw_mem (p := 2061) (by decide +kernel) (by decide +kernel), gw_mem (p := 117) (by decide +kernel) (by decide +kernel), by decide +kernel, by decide, rfl, ⟨by decide +kernel, by decide +kernel⟩, by decide +kernel⟩
def M_m_stepOn : MD := (10, ⟨"SevenLeagueModel", "stepOn", "([II)Z"⟩, prog_12_method_46_code, 4, (some .boolean))
theorem mk_m_stepOn : Mok M_m_stepOn 2 := ⟨gw_mem (p := 1950) (by decide +kernel) (by decide +kernel), gw_mem (p := 117) (by decide +kernel) (by decide +kernel), by decide +kernel, by decide, rfl, ⟨by decide +kernel, by decide +kernel⟩, by decide +kernel⟩
def M_m_steps : MD := (10, ⟨"SevenLeagueModel", "steps", "(I)I"⟩, prog_12_method_99_code, 3, (some .int))
theorem mk_m_steps : Mok M_m_steps 1 := ⟨gw_mem (p := 1965) (by decide +kernel) (by decide +kernel), gw_mem (p := 117) (by decide +kernel) (by decide +kernel), by decide +kernel, by decide, rfl, ⟨by decide +kernel, by decide +kernel⟩, by decide +kernel⟩
def M_m_stillIn : MD := (10, ⟨"SevenLeagueModel", "stillIn", "()I"⟩, prog_12_method_71_code, 2, (some .int))
theorem mk_m_stillIn : Mok M_m_stillIn 0 := ⟨gw_mem (p := 1846) (by decide +kernel) (by decide +kernel), gw_mem (p := 117) (by decide +kernel) (by decide +kernel), by decide +kernel, by decide, rfl, ⟨by decide +kernel, by decide +kernel⟩, by decide +kernel⟩
def M_m_stretches : MD := (10, ⟨"SevenLeagueModel", "stretches", "()I"⟩, prog_12_method_61_code, 1, (some .int))
theorem mk_m_stretches : Mok M_m_stretches 0 := ⟨gw_mem (p := 1781) (by decide +kernel) (by decide +kernel), gw_mem (p := 117) (by decide +kernel) (by decide +kernel), by decide +kernel, by decide, rfl, ⟨by decide +kernel, by decide +kernel⟩, by decide +kernel⟩
def M_m_stride : MD := (10, ⟨"SevenLeagueModel", "stride", "(II)I"⟩, prog_12_method_121_code, 4, (some .int))
theorem mk_m_stride : Mok M_m_stride 2 := ⟨gw_mem (p := 2053) (by decide +kernel) (by decide +kernel), gw_mem (p := 117) (by decide +kernel) (by decide +kernel), by decide +kernel, by decide, rfl, ⟨by decide +kernel, by decide +kernel⟩, by decide +kernel⟩
def M_m_strideLine : MD := (10, ⟨"SevenLeagueModel", "strideLine", "()V"⟩, prog_12_method_34_code, 3, none)
theorem mk_m_strideLine : Mok M_m_strideLine 0 := ⟨gw_mem (p := 1699) (by decide +kernel) (by decide +kernel), gw_mem (p := 117) (by decide +kernel) (by decide +kernel), by decide +kernel, by decide, rfl, ⟨by decide +kernel, by decide +kernel⟩, by decide +kernel⟩
def M_m_strideOn : MD := (10, ⟨"SevenLeagueModel", "strideOn", "([I[III)Z"⟩, prog_12_method_45_code, 8, (some .boolean))
theorem mk_m_strideOn : Mok M_m_strideOn 4 := ⟨gw_mem (p := 1704) (by decide +kernel) (by decide +kernel), gw_mem (p := 117) (by decide +kernel) (by decide +kernel), by decide +kernel, by decide, rfl, ⟨by decide +kernel, by decide +kernel⟩, by decide +kernel⟩
def M_m_sum : MD := (10, ⟨"SevenLeagueModel", "sum", "(I)I"⟩, prog_12_method_90_code, 3, (some .int))
theorem mk_m_sum : Mok M_m_sum 1 := ⟨gw_mem (p := 1918) (by decide +kernel) (by decide +kernel), gw_mem (p := 117) (by decide +kernel) (by decide +kernel), by decide +kernel, by decide, rfl, ⟨by decide +kernel, by decide +kernel⟩, by decide +kernel⟩
def M_m_surely : MD := (10, ⟨"SevenLeagueModel", "surely", "()I"⟩, prog_12_method_105_code, 1, (some .int))
theorem mk_m_surely : Mok M_m_surely 0 := ⟨gw_mem (p := 1989) (by decide +kernel) (by decide +kernel), gw_mem (p := 117) (by decide +kernel) (by decide +kernel), by decide +kernel, by decide, rfl, ⟨by decide +kernel, by decide +kernel⟩, by decide +kernel⟩
def M_m_takesWord : MD := (10, ⟨"SevenLeagueModel", "takesWord", "(Ljava/lang/String;)Z"⟩, prog_12_method_17_code, 2, (some .boolean))
theorem mk_m_takesWord : Mok M_m_takesWord 1 := ⟨gw_mem (p := 1634) (by decide +kernel) (by decide +kernel), gw_mem (p := 117) (by decide +kernel) (by decide +kernel), by decide +kernel, by decide, rfl, ⟨by decide +kernel, by decide +kernel⟩, by decide +kernel⟩
def M_m_thrown : MD := (10, ⟨"SevenLeagueModel", "thrown", "()I"⟩, prog_12_method_2_code, 1, (some .int))
theorem mk_m_thrown : Mok M_m_thrown 0 := ⟨gw_mem (p := 1569) (by decide +kernel) (by decide +kernel), gw_mem (p := 117) (by decide +kernel) (by decide +kernel), by decide +kernel, by decide, rfl, ⟨by decide +kernel, by decide +kernel⟩, by decide +kernel⟩
def M_m_tour : MD := (10, ⟨"SevenLeagueModel", "tou\x72", "(I)I"⟩, prog_12_method_96_code, 3, (some .int))
theorem mk_m_tour : Mok M_m_tour 1 := ⟨gw_mem (p := 1934) (by decide +kernel) (by decide +kernel), gw_mem (p := 117) (by decide +kernel) (by decide +kernel), by decide +kernel, by decide, rfl, ⟨by decide +kernel, by decide +kernel⟩, by decide +kernel⟩
def M_m_tourAt : MD := (10, ⟨"SevenLeagueModel", "tourAt", "(II)I"⟩, prog_12_method_98_code, 6, (some .int))
theorem mk_m_tourAt : Mok M_m_tourAt 2 := ⟨gw_mem (p := 1958) (by decide +kernel) (by decide +kernel), gw_mem (p := 117) (by decide +kernel) (by decide +kernel), by decide +kernel, by decide, rfl, ⟨by decide +kernel, by decide +kernel⟩, by decide +kernel⟩
def M_m_tourGone : MD := (10, ⟨"SevenLeagueModel", "tourGone", "(I)I"⟩, prog_12_method_97_code, 3, (some .int))
theorem mk_m_tourGone : Mok M_m_tourGone 1 := ⟨gw_mem (p := 1954) (by decide +kernel) (by decide +kernel), gw_mem (p := 117) (by decide +kernel) (by decide +kernel), by decide +kernel, by decide, rfl, ⟨by decide +kernel, by decide +kernel⟩, by decide +kernel⟩
def M_m_tourWhy : MD := (10, ⟨"SevenLeagueModel", "tourWhy", "(I)I"⟩, prog_12_method_95_code, 2, (some .int))
theorem mk_m_tourWhy : Mok M_m_tourWhy 1 := ⟨gw_mem (p := 1938) (by decide +kernel) (by decide +kernel), gw_mem (p := 117) (by decide +kernel) (by decide +kernel), by decide +kernel, by decide, rfl, ⟨by decide +kernel, by decide +kernel⟩, by decide +kernel⟩
def M_m_trouble : MD := (10, ⟨"SevenLeagueModel", "trouble", "()I"⟩, prog_12_method_130_code, 1, (some .int))
theorem mk_m_trouble : Mok M_m_trouble 0 := ⟨gw_mem (p := 2097) (by decide +kernel) (by decide +kernel), gw_mem (p := 117) (by decide +kernel) (by decide +kernel), by decide +kernel, by decide, rfl, ⟨by decide +kernel, by decide +kernel⟩, by decide +kernel⟩
def M_m_tryGout : MD := (10, ⟨"SevenLeagueModel", "tryGout", "(II)V"⟩, prog_12_method_116_code, 7, none)
theorem mk_m_tryGout : Mok M_m_tryGout 2 := ⟨gw_mem (p := 2036) (by decide +kernel) (by decide +kernel), gw_mem (p := 117) (by decide +kernel) (by decide +kernel), by decide +kernel, by decide, rfl, ⟨by decide +kernel, by decide +kernel⟩, by decide +kernel⟩
def M_m_tryRows : MD := (10, ⟨"SevenLeagueModel", "tryRows", "(II)V"⟩, prog_12_method_81_code, 5, none)
theorem mk_m_tryRows : Mok M_m_tryRows 2 := ⟨gw_mem (p := 1894) (by decide +kernel) (by decide +kernel), gw_mem (p := 117) (by decide +kernel) (by decide +kernel), by decide +kernel, by decide, rfl, ⟨by decide +kernel, by decide +kernel⟩, by decide +kernel⟩
def M_m_undo : MD := (10, ⟨"SevenLeagueModel", "undo", "()Z"⟩, prog_12_method_125_code, 1, (some .boolean))
theorem mk_m_undo : Mok M_m_undo 0 := ⟨gw_mem (p := 2073) (by decide +kernel) (by decide +kernel), gw_mem (p := 117) (by decide +kernel) (by decide +kernel), by decide +kernel, by decide, rfl, ⟨by decide +kernel, by decide +kernel⟩, by decide +kernel⟩
def M_m_unsureLine : MD := (10, ⟨"SevenLeagueModel", "unsureLine", "()V"⟩, prog_12_method_35_code, 3, none)
theorem mk_m_unsureLine : Mok M_m_unsureLine 0 := ⟨gw_mem (p := 1711) (by decide +kernel) (by decide +kernel), gw_mem (p := 117) (by decide +kernel) (by decide +kernel), by decide +kernel, by decide, rfl, ⟨by decide +kernel, by decide +kernel⟩, by decide +kernel⟩
def M_m_walks : MD := (10, ⟨"SevenLeagueModel", "walks", "(II)Z"⟩, prog_12_method_93_code, 4, (some .boolean))
theorem mk_m_walks : Mok M_m_walks 2 := ⟨gw_mem (p := 1946) (by decide +kernel) (by decide +kernel), gw_mem (p := 117) (by decide +kernel) (by decide +kernel), by decide +kernel, by decide, rfl, ⟨by decide +kernel, by decide +kernel⟩, by decide +kernel⟩
def M_m_wayWhy : MD := (10, ⟨"SevenLeagueModel", "wayWhy", "(II)I"⟩, prog_12_method_72_code, 3, (some .int))
theorem mk_m_wayWhy : Mok M_m_wayWhy 2 := ⟨gw_mem (p := 1854) (by decide +kernel) (by decide +kernel), gw_mem (p := 117) (by decide +kernel) (by decide +kernel), by decide +kernel, by decide, rfl, ⟨by decide +kernel, by decide +kernel⟩, by decide +kernel⟩
def M_m_where : MD := (10, ⟨"SevenLeagueModel", "where", "()I"⟩, prog_12_method_38_code, 1, (some .int))
theorem mk_m_where : Mok M_m_where 0 := ⟨gw_mem (p := 1725) (by decide +kernel) (by decide +kernel), gw_mem (p := 117) (by decide +kernel) (by decide +kernel), by decide +kernel, by decide, rfl, ⟨by decide +kernel, by decide +kernel⟩, by decide +kernel⟩
def M_m_why : MD := (10, ⟨"SevenLeagueModel", "why", "(ZZ)I"⟩, prog_12_method_42_code, 3, (some .int))
theorem mk_m_why : Mok M_m_why 2 := ⟨gw_mem (p := 1822) (by decide +kernel) (by decide +kernel), gw_mem (p := 117) (by decide +kernel) (by decide +kernel), by decide +kernel, by decide, rfl, ⟨by decide +kernel, by decide +kernel⟩, by decide +kernel⟩
def M_m_widest : MD := (10, ⟨"SevenLeagueModel", "widest", "()I"⟩, prog_12_method_63_code, 1, (some .int))
theorem mk_m_widest : Mok M_m_widest 0 := ⟨gw_mem (p := 1793) (by decide +kernel) (by decide +kernel), gw_mem (p := 117) (by decide +kernel) (by decide +kernel), by decide +kernel, by decide, rfl, ⟨by decide +kernel, by decide +kernel⟩, by decide +kernel⟩
def M_m_wrong : MD := (10, ⟨"SevenLeagueModel", "wrong", "(II)V"⟩, prog_12_method_15_code, 3, none)
theorem mk_m_wrong : Mok M_m_wrong 2 := ⟨gw_mem (p := 1621) (by decide +kernel) (by decide +kernel), gw_mem (p := 117) (by decide +kernel) (by decide +kernel), by decide +kernel, by decide, rfl, ⟨by decide +kernel, by decide +kernel⟩, by decide +kernel⟩
def M_m_wrongBy : MD := (10, ⟨"SevenLeagueModel", "wrongBy", "(I)I"⟩, prog_12_method_100_code, 5, (some .int))
theorem mk_m_wrongBy : Mok M_m_wrongBy 1 := ⟨gw_mem (p := 1977) (by decide +kernel) (by decide +kernel), gw_mem (p := 117) (by decide +kernel) (by decide +kernel), by decide +kernel, by decide, rfl, ⟨by decide +kernel, by decide +kernel⟩, by decide +kernel⟩
def M_m_year : MD := (10, ⟨"SevenLeagueModel", "yea\x72", "()I"⟩, prog_12_method_123_code, 1, (some .int))
theorem mk_m_year : Mok M_m_year 0 := ⟨gw_mem (p := 2065) (by decide +kernel) (by decide +kernel), gw_mem (p := 117) (by decide +kernel) (by decide +kernel), by decide +kernel, by decide, rfl, ⟨by decide +kernel, by decide +kernel⟩, by decide +kernel⟩
def M_m_yearOn : MD := (10, ⟨"SevenLeagueModel", "yearOn", "([I)I"⟩, prog_12_method_47_code, 5, (some .int))
theorem mk_m_yearOn : Mok M_m_yearOn 1 := ⟨gw_mem (p := 1834) (by decide +kernel) (by decide +kernel), gw_mem (p := 117) (by decide +kernel) (by decide +kernel), by decide +kernel, by decide, rfl, ⟨by decide +kernel, by decide +kernel⟩, by decide +kernel⟩
def M_m_yearsOn : MD := (10, ⟨"SevenLeagueModel", "yearsOn", "(I)V"⟩, prog_12_method_51_code, 3, none)
theorem mk_m_yearsOn : Mok M_m_yearsOn 1 := ⟨gw_mem (p := 1826) (by decide +kernel) (by decide +kernel), gw_mem (p := 117) (by decide +kernel) (by decide +kernel), by decide +kernel, by decide, rfl, ⟨by decide +kernel, by decide +kernel⟩, by decide +kernel⟩
def M_numbers_add : MD := (3, ⟨"SevenLeague$Numbers", "add", "(I)V"⟩, prog_5_method_2_code, 2, none)
theorem mk_numbers_add : Mok M_numbers_add 1 := ⟨gw_mem (p := 693) (by decide +kernel) (by decide +kernel), gw_mem (p := 109) (by decide +kernel) (by decide +kernel), by decide +kernel, by decide, rfl, ⟨by decide +kernel, by decide +kernel⟩, by decide +kernel⟩
def M_numbers_at : MD := (3, ⟨"SevenLeague$Numbers", "at", "(I)I"⟩, prog_5_method_3_code, 2, (some .int))
theorem mk_numbers_at : Mok M_numbers_at 1 := ⟨gw_mem (p := 685) (by decide +kernel) (by decide +kernel), gw_mem (p := 109) (by decide +kernel) (by decide +kernel), by decide +kernel, by decide, rfl, ⟨by decide +kernel, by decide +kernel⟩, by decide +kernel⟩
def M_numbers_indexOf : MD := (3, ⟨"SevenLeague$Numbers", "indexOf", "(I)I"⟩, prog_5_method_4_code, 3, (some .int))
theorem mk_numbers_indexOf : Mok M_numbers_indexOf 1 := ⟨gw_mem (p := 706) (by decide +kernel) (by decide +kernel), gw_mem (p := 109) (by decide +kernel) (by decide +kernel), by decide +kernel, by decide, rfl, ⟨by decide +kernel, by decide +kernel⟩, by decide +kernel⟩
def M_paths_comeRow : MD := (4, ⟨"SevenLeague$Paths", "comeRow", "(I)I"⟩, prog_6_method_7_code, 2, (some .int))
theorem mk_paths_comeRow : Mok M_paths_comeRow 1 := ⟨gw_mem (p := 1041) (by decide +kernel) (by decide +kernel), gw_mem (p := 114) (by decide +kernel) (by decide +kernel), by decide +kernel, by decide, rfl, ⟨by decide +kernel, by decide +kernel⟩, by decide +kernel⟩
def M_paths_comeStrides : MD := (4, ⟨"SevenLeague$Paths", "comeStrides", "(I)I"⟩, prog_6_method_6_code, 2, (some .int))
theorem mk_paths_comeStrides : Mok M_paths_comeStrides 1 := ⟨gw_mem (p := 1033) (by decide +kernel) (by decide +kernel), gw_mem (p := 114) (by decide +kernel) (by decide +kernel), by decide +kernel, by decide, rfl, ⟨by decide +kernel, by decide +kernel⟩, by decide +kernel⟩
def M_paths_explore : MD := (4, ⟨"SevenLeague$Paths", "explore", "(LSevenLeague$Country;IJIII)V"⟩, prog_6_method_4_code, 13, none)
theorem mk_paths_explore : Mok M_paths_explore 6 := ⟨gw_mem (p := 1019) (by decide +kernel) (by decide +kernel), gw_mem (p := 114) (by decide +kernel) (by decide +kernel), by decide +kernel, by decide, rfl, ⟨by decide +kernel, by decide +kernel⟩, by decide +kernel⟩
def M_paths_fewestFor : MD := (4, ⟨"SevenLeague$Paths", "fewestFo\x72", "(ILSevenLeague$Country;)I"⟩, prog_6_method_11_code, 7, (some .int))
theorem mk_paths_fewestFor : Mok M_paths_fewestFor 2 := ⟨gw_mem (p := 1074) (by decide +kernel) (by decide +kernel), gw_mem (p := 114) (by decide +kernel) (by decide +kernel), by decide +kernel, by decide, rfl, ⟨by decide +kernel, by decide +kernel⟩, by decide +kernel⟩
def M_paths_forget : MD := (4, ⟨"SevenLeague$Paths", "forget", "()V"⟩, prog_6_method_2_code, 1, none)
theorem mk_paths_forget : Mok M_paths_forget 0 := ⟨gw_mem (p := 763) (by decide +kernel) (by decide +kernel), gw_mem (p := 114) (by decide +kernel) (by decide +kernel), by decide +kernel, by decide, rfl, ⟨by decide +kernel, by decide +kernel⟩, by decide +kernel⟩
def M_paths_get : MD := (4, ⟨"SevenLeague$Paths", "get", "([II)I"⟩, prog_6_method_13_code, 2, (some .int))
theorem mk_paths_get : Mok M_paths_get 2 := ⟨gw_mem (p := 1026) (by decide +kernel) (by decide +kernel), gw_mem (p := 114) (by decide +kernel) (by decide +kernel), by decide +kernel, by decide, rfl, ⟨by decide +kernel, by decide +kernel⟩, by decide +kernel⟩
def M_paths_know : MD := (4, ⟨"SevenLeague$Paths", "know", "(LSevenLeague$Country;LSevenLeague$State;)V"⟩, prog_6_method_3_code, 5, none)
theorem mk_paths_know : Mok M_paths_know 2 := ⟨gw_mem (p := 1008) (by decide +kernel) (by decide +kernel), gw_mem (p := 114) (by decide +kernel) (by decide +kernel), by decide +kernel, by decide, rfl, ⟨by decide +kernel, by decide +kernel⟩, by decide +kernel⟩
def M_paths_longestWithoutSum : MD := (4, ⟨"SevenLeague$Paths", "longestWithoutSum", "(LSevenLeague$Country;)I"⟩, prog_6_method_12_code, 3, (some .int))
theorem mk_paths_longestWithoutSum : Mok M_paths_longestWithoutSum 1 := ⟨gw_mem (p := 1097) (by decide +kernel) (by decide +kernel), gw_mem (p := 114) (by decide +kernel) (by decide +kernel), by decide +kernel, by decide, rfl, ⟨by decide +kernel, by decide +kernel⟩, by decide +kernel⟩
def M_paths_note : MD := (4, ⟨"SevenLeague$Paths", "note", "(IIII)V"⟩, prog_6_method_5_code, 7, none)
theorem mk_paths_note : Mok M_paths_note 4 := ⟨gw_mem (p := 1023) (by decide +kernel) (by decide +kernel), gw_mem (p := 114) (by decide +kernel) (by decide +kernel), by decide +kernel, by decide, rfl, ⟨by decide +kernel, by decide +kernel⟩, by decide +kernel⟩
def M_paths_put : MD := (4, ⟨"SevenLeague$Paths", "put", "([III)V"⟩, prog_6_method_14_code, 3, none)
theorem mk_paths_put : Mok M_paths_put 3 := ⟨gw_mem (p := 1015) (by decide +kernel) (by decide +kernel), gw_mem (p := 114) (by decide +kernel) (by decide +kernel), by decide +kernel, by decide, rfl, ⟨by decide +kernel, by decide +kernel⟩, by decide +kernel⟩
def M_paths_reached : MD := (4, ⟨"SevenLeague$Paths", "reached", "(I)J"⟩, prog_6_method_10_code, 5, (some .long))
theorem mk_paths_reached : Mok M_paths_reached 1 := ⟨gw_mem (p := 1065) (by decide +kernel) (by decide +kernel), gw_mem (p := 114) (by decide +kernel) (by decide +kernel), by decide +kernel, by decide, rfl, ⟨by decide +kernel, by decide +kernel⟩, by decide +kernel⟩
def M_paths_spareLost : MD := (4, ⟨"SevenLeague$Paths", "spareLost", "(I)I"⟩, prog_6_method_8_code, 2, (some .int))
theorem mk_paths_spareLost : Mok M_paths_spareLost 1 := ⟨gw_mem (p := 1049) (by decide +kernel) (by decide +kernel), gw_mem (p := 114) (by decide +kernel) (by decide +kernel), by decide +kernel, by decide, rfl, ⟨by decide +kernel, by decide +kernel⟩, by decide +kernel⟩
def M_paths_sparingRow : MD := (4, ⟨"SevenLeague$Paths", "sparingRow", "(I)I"⟩, prog_6_method_9_code, 2, (some .int))
theorem mk_paths_sparingRow : Mok M_paths_sparingRow 1 := ⟨gw_mem (p := 1057) (by decide +kernel) (by decide +kernel), gw_mem (p := 114) (by decide +kernel) (by decide +kernel), by decide +kernel, by decide, rfl, ⟨by decide +kernel, by decide +kernel⟩, by decide +kernel⟩
def M_reader_append : MD := (5, ⟨"SevenLeague$Reade\x72", "append", "(I)V"⟩, prog_7_method_2_code, 3, none)
theorem mk_reader_append : Mok M_reader_append 1 := ⟨gw_mem (p := 514) (by decide +kernel) (by decide +kernel), gw_mem (p := 107) (by decide +kernel) (by decide +kernel), by decide +kernel, by decide, rfl, ⟨by decide +kernel, by decide +kernel⟩, by decide +kernel⟩
def M_reader_begin : MD := (5, ⟨"SevenLeague$Reade\x72", "begin", "(I)V"⟩, prog_7_method_4_code, 3, none)
theorem mk_reader_begin : Mok M_reader_begin 1 := ⟨gw_mem (p := 530) (by decide +kernel) (by decide +kernel), gw_mem (p := 107) (by decide +kernel) (by decide +kernel), by decide +kernel, by decide, rfl, ⟨by decide +kernel, by decide +kernel⟩, by decide +kernel⟩
def M_reader_byteAt : MD := (5, ⟨"SevenLeague$Reade\x72", "byteAt", "(I)I"⟩, prog_7_method_27_code, 2, (some .int))
theorem mk_reader_byteAt : Mok M_reader_byteAt 1 := ⟨gw_mem (p := 545) (by decide +kernel) (by decide +kernel), gw_mem (p := 107) (by decide +kernel) (by decide +kernel), by decide +kernel, by decide, rfl, ⟨by decide +kernel, by decide +kernel⟩, by decide +kernel⟩
def M_reader_endText : MD := (5, ⟨"SevenLeague$Reade\x72", "endText", "()V"⟩, prog_7_method_5_code, 1, none)
theorem mk_reader_endText : Mok M_reader_endText 0 := ⟨gw_mem (p := 743) (by decide +kernel) (by decide +kernel), gw_mem (p := 107) (by decide +kernel) (by decide +kernel), by decide +kernel, by decide, rfl, ⟨by decide +kernel, by decide +kernel⟩, by decide +kernel⟩
def M_reader_expect : MD := (5, ⟨"SevenLeague$Reade\x72", "expect", "(Ljava/lang/String;)Z"⟩, prog_7_method_16_code, 2, (some .boolean))
theorem mk_reader_expect : Mok M_reader_expect 1 := ⟨gw_mem (p := 637) (by decide +kernel) (by decide +kernel), gw_mem (p := 107) (by decide +kernel) (by decide +kernel), by decide +kernel, by decide, rfl, ⟨by decide +kernel, by decide +kernel⟩, by decide +kernel⟩
def M_reader_expectCell : MD := (5, ⟨"SevenLeague$Reade\x72", "expectCell", "(I)Z"⟩, prog_7_method_18_code, 2, (some .boolean))
theorem mk_reader_expectCell : Mok M_reader_expectCell 1 := ⟨gw_mem (p := 646) (by decide +kernel) (by decide +kernel), gw_mem (p := 107) (by decide +kernel) (by decide +kernel), by decide +kernel, by decide, rfl, ⟨by decide +kernel, by decide +kernel⟩, by decide +kernel⟩
def M_reader_expectNewName : MD := (5, ⟨"SevenLeague$Reade\x72", "expectNewName", "(I)Z"⟩, prog_7_method_19_code, 2, (some .boolean))
theorem mk_reader_expectNewName : Mok M_reader_expectNewName 1 := ⟨gw_mem (p := 677) (by decide +kernel) (by decide +kernel), gw_mem (p := 107) (by decide +kernel) (by decide +kernel), by decide +kernel, by decide, rfl, ⟨by decide +kernel, by decide +kernel⟩, by decide +kernel⟩
def M_reader_expectWhole : MD := (5, ⟨"SevenLeague$Reade\x72", "expectWhole", "(II)Z"⟩, prog_7_method_17_code, 3, (some .boolean))
theorem mk_reader_expectWhole : Mok M_reader_expectWhole 2 := ⟨gw_mem (p := 641) (by decide +kernel) (by decide +kernel), gw_mem (p := 107) (by decide +kernel) (by decide +kernel), by decide +kernel, by decide, rfl, ⟨by decide +kernel, by decide +kernel⟩, by decide +kernel⟩
def M_reader_fail : MD := (5, ⟨"SevenLeague$Reade\x72", "fail", "(I)Z"⟩, prog_7_method_15_code, 2, (some .boolean))
theorem mk_reader_fail : Mok M_reader_fail 1 := ⟨gw_mem (p := 628) (by decide +kernel) (by decide +kernel), gw_mem (p := 107) (by decide +kernel) (by decide +kernel), by decide +kernel, by decide, rfl, ⟨by decide +kernel, by decide +kernel⟩, by decide +kernel⟩
def M_reader_headFits : MD := (5, ⟨"SevenLeague$Reade\x72", "headFits", "(I)Z"⟩, prog_7_method_7_code, 3, (some .boolean))
theorem mk_reader_headFits : Mok M_reader_headFits 1 := ⟨gw_mem (p := 622) (by decide +kernel) (by decide +kernel), gw_mem (p := 107) (by decide +kernel) (by decide +kernel), by decide +kernel, by decide, rfl, ⟨by decide +kernel, by decide +kernel⟩, by decide +kernel⟩
def M_reader_isDigit : MD := (5, ⟨"SevenLeague$Reade\x72", "isDigit", "(I)Z"⟩, prog_7_method_26_code, 1, (some .boolean))
theorem mk_reader_isDigit : Mok M_reader_isDigit 1 := ⟨gw_mem (p := 551) (by decide +kernel) (by decide +kernel), gw_mem (p := 107) (by decide +kernel) (by decide +kernel), by decide +kernel, by decide, rfl, ⟨by decide +kernel, by decide +kernel⟩, by decide +kernel⟩
def M_reader_isLetter : MD := (5, ⟨"SevenLeague$Reade\x72", "isLette\x72", "(I)Z"⟩, prog_7_method_25_code, 1, (some .boolean))
theorem mk_reader_isLetter : Mok M_reader_isLetter 1 := ⟨gw_mem (p := 548) (by decide +kernel) (by decide +kernel), gw_mem (p := 107) (by decide +kernel) (by decide +kernel), by decide +kernel, by decide, rfl, ⟨by decide +kernel, by decide +kernel⟩, by decide +kernel⟩
def M_reader_isLike : MD := (5, ⟨"SevenLeague$Reade\x72", "isLike", "(II)Z"⟩, prog_7_method_21_code, 4, (some .boolean))
theorem mk_reader_isLike : Mok M_reader_isLike 2 := ⟨gw_mem (p := 689) (by decide +kernel) (by decide +kernel), gw_mem (p := 107) (by decide +kernel) (by decide +kernel), by decide +kernel, by decide, rfl, ⟨by decide +kernel, by decide +kernel⟩, by decide +kernel⟩
def M_reader_isWord : MD := (5, ⟨"SevenLeague$Reade\x72", "isWord", "(Ljava/lang/String;)Z"⟩, prog_7_method_23_code, 3, (some .boolean))
theorem mk_reader_isWord : Mok M_reader_isWord 1 := ⟨gw_mem (p := 564) (by decide +kernel) (by decide +kernel), gw_mem (p := 107) (by decide +kernel) (by decide +kernel), by decide +kernel, by decide, rfl, ⟨by decide +kernel, by decide +kernel⟩, by decide +kernel⟩
def M_reader_nameHere : MD := (5, ⟨"SevenLeague$Reade\x72", "nameHere", "()I"⟩, prog_7_method_20_code, 2, (some .int))
theorem mk_reader_nameHere : Mok M_reader_nameHere 0 := ⟨gw_mem (p := 681) (by decide +kernel) (by decide +kernel), gw_mem (p := 107) (by decide +kernel) (by decide +kernel), by decide +kernel, by decide, rfl, ⟨by decide +kernel, by decide +kernel⟩, by decide +kernel⟩
def M_reader_nextToken : MD := (5, ⟨"SevenLeague$Reade\x72", "nextToken", "()V"⟩, prog_7_method_24_code, 1, none)
theorem mk_reader_nextToken : Mok M_reader_nextToken 0 := ⟨gw_mem (p := 541) (by decide +kernel) (by decide +kernel), gw_mem (p := 107) (by decide +kernel) (by decide +kernel), by decide +kernel, by decide, rfl, ⟨by decide +kernel, by decide +kernel⟩, by decide +kernel⟩
def M_reader_read : MD := (5, ⟨"SevenLeague$Reade\x72", "read", "(I)V"⟩, prog_7_method_3_code, 3, none)
theorem mk_reader_read : Mok M_reader_read 1 := ⟨gw_mem (p := 526) (by decide +kernel) (by decide +kernel), gw_mem (p := 107) (by decide +kernel) (by decide +kernel), by decide +kernel, by decide, rfl, ⟨by decide +kernel, by decide +kernel⟩, by decide +kernel⟩
def M_reader_readBoots : MD := (5, ⟨"SevenLeague$Reade\x72", "readBoots", "()Z"⟩, prog_7_method_10_code, 1, (some .boolean))
theorem mk_reader_readBoots : Mok M_reader_readBoots 0 := ⟨gw_mem (p := 673) (by decide +kernel) (by decide +kernel), gw_mem (p := 107) (by decide +kernel) (by decide +kernel), by decide +kernel, by decide, rfl, ⟨by decide +kernel, by decide +kernel⟩, by decide +kernel⟩
def M_reader_readGround : MD := (5, ⟨"SevenLeague$Reade\x72", "readGround", "()Z"⟩, prog_7_method_9_code, 3, (some .boolean))
theorem mk_reader_readGround : Mok M_reader_readGround 0 := ⟨gw_mem (p := 652) (by decide +kernel) (by decide +kernel), gw_mem (p := 107) (by decide +kernel) (by decide +kernel), by decide +kernel, by decide, rfl, ⟨by decide +kernel, by decide +kernel⟩, by decide +kernel⟩
def M_reader_readLand : MD := (5, ⟨"SevenLeague$Reade\x72", "readLand", "()Z"⟩, prog_7_method_8_code, 1, (some .boolean))
theorem mk_reader_readLand : Mok M_reader_readLand 0 := ⟨gw_mem (p := 632) (by decide +kernel) (by decide +kernel), gw_mem (p := 107) (by decide +kernel) (by decide +kernel), by decide +kernel, by decide, rfl, ⟨by decide +kernel, by decide +kernel⟩, by decide +kernel⟩
def M_reader_readLine : MD := (5, ⟨"SevenLeague$Reade\x72", "readLine", "()Z"⟩, prog_7_method_6_code, 2, (some .boolean))
theorem mk_reader_readLine : Mok M_reader_readLine 0 := ⟨gw_mem (p := 555) (by decide +kernel) (by decide +kernel), gw_mem (p := 107) (by decide +kernel) (by decide +kernel), by decide +kernel, by decide, rfl, ⟨by decide +kernel, by decide +kernel⟩, by decide +kernel⟩
def M_reader_readPlace : MD := (5, ⟨"SevenLeague$Reade\x72", "readPlace", "()Z"⟩, prog_7_method_11_code, 1, (some .boolean))
theorem mk_reader_readPlace : Mok M_reader_readPlace 0 := ⟨gw_mem (p := 697) (by decide +kernel) (by decide +kernel), gw_mem (p := 107) (by decide +kernel) (by decide +kernel), by decide +kernel, by decide, rfl, ⟨by decide +kernel, by decide +kernel⟩, by decide +kernel⟩
def M_reader_readSeen : MD := (5, ⟨"SevenLeague$Reade\x72", "readSeen", "()Z"⟩, prog_7_method_14_code, 2, (some .boolean))
theorem mk_reader_readSeen : Mok M_reader_readSeen 0 := ⟨gw_mem (p := 737) (by decide +kernel) (by decide +kernel), gw_mem (p := 107) (by decide +kernel) (by decide +kernel), by decide +kernel, by decide, rfl, ⟨by decide +kernel, by decide +kernel⟩, by decide +kernel⟩
def M_reader_readStride : MD := (5, ⟨"SevenLeague$Reade\x72", "readStride", "()Z"⟩, prog_7_method_12_code, 5, (some .boolean))
theorem mk_reader_readStride : Mok M_reader_readStride 0 := ⟨gw_mem (p := 712) (by decide +kernel) (by decide +kernel), gw_mem (p := 107) (by decide +kernel) (by decide +kernel), by decide +kernel, by decide, rfl, ⟨by decide +kernel, by decide +kernel⟩, by decide +kernel⟩
def M_reader_readUnsure : MD := (5, ⟨"SevenLeague$Reade\x72", "readUnsure", "()Z"⟩, prog_7_method_13_code, 1, (some .boolean))
theorem mk_reader_readUnsure : Mok M_reader_readUnsure 0 := ⟨gw_mem (p := 732) (by decide +kernel) (by decide +kernel), gw_mem (p := 107) (by decide +kernel) (by decide +kernel), by decide +kernel, by decide, rfl, ⟨by decide +kernel, by decide +kernel⟩, by decide +kernel⟩
def M_reader_sortHere : MD := (5, ⟨"SevenLeague$Reade\x72", "sortHere", "()I"⟩, prog_7_method_22_code, 1, (some .int))
theorem mk_reader_sortHere : Mok M_reader_sortHere 0 := ⟨gw_mem (p := 559) (by decide +kernel) (by decide +kernel), gw_mem (p := 107) (by decide +kernel) (by decide +kernel), by decide +kernel, by decide, rfl, ⟨by decide +kernel, by decide +kernel⟩, by decide +kernel⟩
def M_shelf_fetch : MD := (6, ⟨"SevenLeague$Shelf", "fetch", "(ILSevenLeague$State;)V"⟩, prog_8_method_4_code, 3, none)
theorem mk_shelf_fetch : Mok M_shelf_fetch 2 := ⟨gw_mem (p := 1315) (by decide +kernel) (by decide +kernel), gw_mem (p := 113) (by decide +kernel) (by decide +kernel), by decide +kernel, by decide, rfl, ⟨by decide +kernel, by decide +kernel⟩, by decide +kernel⟩
def M_shelf_has : MD := (6, ⟨"SevenLeague$Shelf", "has", "(I)Z"⟩, prog_8_method_2_code, 2, (some .boolean))
theorem mk_shelf_has : Mok M_shelf_has 1 := ⟨gw_mem (p := 1285) (by decide +kernel) (by decide +kernel), gw_mem (p := 113) (by decide +kernel) (by decide +kernel), by decide +kernel, by decide, rfl, ⟨by decide +kernel, by decide +kernel⟩, by decide +kernel⟩
def M_shelf_keep : MD := (6, ⟨"SevenLeague$Shelf", "keep", "(ILSevenLeague$State;)V"⟩, prog_8_method_3_code, 3, none)
theorem mk_shelf_keep : Mok M_shelf_keep 2 := ⟨gw_mem (p := 1281) (by decide +kernel) (by decide +kernel), gw_mem (p := 113) (by decide +kernel) (by decide +kernel), by decide +kernel, by decide, rfl, ⟨by decide +kernel, by decide +kernel⟩, by decide +kernel⟩
def M_state_begin : MD := (7, ⟨"SevenLeague$State", "begin", "(LSevenLeague$Country;)V"⟩, prog_9_method_2_code, 2, none)
theorem mk_state_begin : Mok M_state_begin 1 := ⟨gw_mem (p := 747) (by decide +kernel) (by decide +kernel), gw_mem (p := 111) (by decide +kernel) (by decide +kernel), by decide +kernel, by decide, rfl, ⟨by decide +kernel, by decide +kernel⟩, by decide +kernel⟩
def M_state_copy : MD := (7, ⟨"SevenLeague$State", "copy", "(LSevenLeague$State;)V"⟩, prog_9_method_3_code, 2, none)
theorem mk_state_copy : Mok M_state_copy 1 := ⟨gw_mem (p := 909) (by decide +kernel) (by decide +kernel), gw_mem (p := 111) (by decide +kernel) (by decide +kernel), by decide +kernel, by decide, rfl, ⟨by decide +kernel, by decide +kernel⟩, by decide +kernel⟩
def M_state_depthAt : MD := (7, ⟨"SevenLeague$State", "depthAt", "(I)I"⟩, prog_9_method_5_code, 2, (some .int))
theorem mk_state_depthAt : Mok M_state_depthAt 1 := ⟨gw_mem (p := 787) (by decide +kernel) (by decide +kernel), gw_mem (p := 111) (by decide +kernel) (by decide +kernel), by decide +kernel, by decide, rfl, ⟨by decide +kernel, by decide +kernel⟩, by decide +kernel⟩
def M_state_depthOf : MD := (7, ⟨"SevenLeague$State", "depthOf", "(J)I"⟩, prog_9_method_6_code, 3, (some .int))
theorem mk_state_depthOf : Mok M_state_depthOf 1 := ⟨gw_mem (p := 882) (by decide +kernel) (by decide +kernel), gw_mem (p := 111) (by decide +kernel) (by decide +kernel), by decide +kernel, by decide, rfl, ⟨by decide +kernel, by decide +kernel⟩, by decide +kernel⟩
def M_state_fillUp : MD := (7, ⟨"SevenLeague$State", "fillUp", "(I)V"⟩, prog_9_method_11_code, 2, none)
theorem mk_state_fillUp : Mok M_state_fillUp 1 := ⟨gw_mem (p := 1303) (by decide +kernel) (by decide +kernel), gw_mem (p := 111) (by decide +kernel) (by decide +kernel), by decide +kernel, by decide, rfl, ⟨by decide +kernel, by decide +kernel⟩, by decide +kernel⟩
def M_state_goneCells : MD := (7, ⟨"SevenLeague$State", "goneCells", "()J"⟩, prog_9_method_4_code, 1, (some .long))
theorem mk_state_goneCells : Mok M_state_goneCells 0 := ⟨gw_mem (p := 798) (by decide +kernel) (by decide +kernel), gw_mem (p := 111) (by decide +kernel) (by decide +kernel), by decide +kernel, by decide, rfl, ⟨by decide +kernel, by decide +kernel⟩, by decide +kernel⟩
def M_state_healing : MD := (7, ⟨"SevenLeague$State", "healing", "(LSevenLeague$Country;)J"⟩, prog_9_method_9_code, 4, (some .long))
theorem mk_state_healing : Mok M_state_healing 1 := ⟨gw_mem (p := 917) (by decide +kernel) (by decide +kernel), gw_mem (p := 111) (by decide +kernel) (by decide +kernel), by decide +kernel, by decide, rfl, ⟨by decide +kernel, by decide +kernel⟩, by decide +kernel⟩
def M_state_lessen : MD := (7, ⟨"SevenLeague$State", "lessen", "(J)V"⟩, prog_9_method_12_code, 5, none)
theorem mk_state_lessen : Mok M_state_lessen 1 := ⟨gw_mem (p := 928) (by decide +kernel) (by decide +kernel), gw_mem (p := 111) (by decide +kernel) (by decide +kernel), by decide +kernel, by decide, rfl, ⟨by decide +kernel, by decide +kernel⟩, by decide +kernel⟩
def M_state_makeStride : MD := (7, ⟨"SevenLeague$State", "makeStride", "(LSevenLeague$Country;I)Z"⟩, prog_9_method_7_code, 6, (some .boolean))
theorem mk_state_makeStride : Mok M_state_makeStride 2 := ⟨gw_mem (p := 990) (by decide +kernel) (by decide +kernel), gw_mem (p := 111) (by decide +kernel) (by decide +kernel), by decide +kernel, by decide, rfl, ⟨by decide +kernel, by decide +kernel⟩, by decide +kernel⟩
def M_state_passYear : MD := (7, ⟨"SevenLeague$State", "passYea\x72", "(LSevenLeague$Country;)V"⟩, prog_9_method_10_code, 2, none)
theorem mk_state_passYear : Mok M_state_passYear 1 := ⟨gw_mem (p := 913) (by decide +kernel) (by decide +kernel), gw_mem (p := 111) (by decide +kernel) (by decide +kernel), by decide +kernel, by decide, rfl, ⟨by decide +kernel, by decide +kernel⟩, by decide +kernel⟩
def M_state_stepTo : MD := (7, ⟨"SevenLeague$State", "stepTo", "(I)V"⟩, prog_9_method_8_code, 2, none)
theorem mk_state_stepTo : Mok M_state_stepTo 1 := ⟨gw_mem (p := 1124) (by decide +kernel) (by decide +kernel), gw_mem (p := 111) (by decide +kernel) (by decide +kernel), by decide +kernel, by decide, rfl, ⟨by decide +kernel, by decide +kernel⟩, by decide +kernel⟩
def M_tours_compare : MD := (8, ⟨"SevenLeague$Tours", "compare", "(LSevenLeague$Country;JI)V"⟩, prog_10_method_4_code, 7, none)
theorem mk_tours_compare : Mok M_tours_compare 3 := ⟨gw_mem (p := 1118) (by decide +kernel) (by decide +kernel), gw_mem (p := 115) (by decide +kernel) (by decide +kernel), by decide +kernel, by decide, rfl, ⟨by decide +kernel, by decide +kernel⟩, by decide +kernel⟩
def M_tours_seek : MD := (8, ⟨"SevenLeague$Tours", "seek", "(LSevenLeague$Country;LSevenLeague$State;I)V"⟩, prog_10_method_2_code, 4, none)
theorem mk_tours_seek : Mok M_tours_seek 3 := ⟨gw_mem (p := 1110) (by decide +kernel) (by decide +kernel), gw_mem (p := 115) (by decide +kernel) (by decide +kernel), by decide +kernel, by decide, rfl, ⟨by decide +kernel, by decide +kernel⟩, by decide +kernel⟩
def M_tours_standsBehind : MD := (8, ⟨"SevenLeague$Tours", "standsBehind", "(II)I"⟩, prog_10_method_5_code, 5, (some .int))
theorem mk_tours_standsBehind : Mok M_tours_standsBehind 2 := ⟨gw_mem (p := 1137) (by decide +kernel) (by decide +kernel), gw_mem (p := 115) (by decide +kernel) (by decide +kernel), by decide +kernel, by decide, rfl, ⟨by decide +kernel, by decide +kernel⟩, by decide +kernel⟩
def M_tours_walkOn : MD := (8, ⟨"SevenLeague$Tours", "walkOn", "(LSevenLeague$Country;IJJII)V"⟩, prog_10_method_3_code, 11, none)
theorem mk_tours_walkOn : Mok M_tours_walkOn 6 := ⟨gw_mem (p := 1114) (by decide +kernel) (by decide +kernel), gw_mem (p := 115) (by decide +kernel) (by decide +kernel), by decide +kernel, by decide, rfl, ⟨by decide +kernel, by decide +kernel⟩, by decide +kernel⟩
def M_x_ask : MD := (9, ⟨"SevenLeague", "ask", "()I"⟩, prog_1_method_44_code, 1, (some .int))
theorem mk_x_ask : Mok M_x_ask 0 := ⟨gw_mem (p := 1197) (by decide +kernel) (by decide +kernel), gw_mem (p := 106) (by decide +kernel) (by decide +kernel), by decide +kernel, by decide, rfl, ⟨by decide +kernel, by decide +kernel⟩, by decide +kernel⟩
def M_x_askLeaves : MD := (9, ⟨"SevenLeague", "askLeaves", "()I"⟩, prog_1_method_45_code, 2, (some .int))
theorem mk_x_askLeaves : Mok M_x_askLeaves 0 := ⟨gw_mem (p := 1211) (by decide +kernel) (by decide +kernel), gw_mem (p := 106) (by decide +kernel) (by decide +kernel), by decide +kernel, by decide, rfl, ⟨by decide +kernel, by decide +kernel⟩, by decide +kernel⟩
def M_x_back : MD := (9, ⟨"SevenLeague", "back", "(I)Z"⟩, prog_1_method_59_code, 2, (some .boolean))
theorem mk_x_back : Mok M_x_back 1 := ⟨gw_mem (p := 1324) (by decide +kernel) (by decide +kernel), gw_mem (p := 106) (by decide +kernel) (by decide +kernel), by decide +kernel, by decide, rfl, ⟨by decide +kernel, by decide +kernel⟩, by decide +kernel⟩
def M_x_backIn : MD := (9, ⟨"SevenLeague", "backIn", "(I)I"⟩, prog_1_method_21_code, 3, (some .int))
theorem mk_x_backIn : Mok M_x_backIn 1 := ⟨gw_mem (p := 936) (by decide +kernel) (by decide +kernel), gw_mem (p := 106) (by decide +kernel) (by decide +kernel), by decide +kernel, by decide, rfl, ⟨by decide +kernel, by decide +kernel⟩, by decide +kernel⟩
def M_x_below : MD := (9, ⟨"SevenLeague", "below", "(I)J"⟩, prog_1_method_83_code, 1, (some .long))
theorem mk_x_below : Mok M_x_below 1 := ⟨gw_mem (p := 662) (by decide +kernel) (by decide +kernel), gw_mem (p := 106) (by decide +kernel) (by decide +kernel), by decide +kernel, by decide, rfl, ⟨by decide +kernel, by decide +kernel⟩, by decide +kernel⟩
def M_x_bestTour : MD := (9, ⟨"SevenLeague", "bestTou\x72", "(I)LSevenLeague$Tours;"⟩, prog_1_method_76_code, 2, (some (.object "SevenLeague$Tours")))
theorem mk_x_bestTour : Mok M_x_bestTour 1 := ⟨gw_mem (p := 1106) (by decide +kernel) (by decide +kernel), gw_mem (p := 106) (by decide +kernel) (by decide +kernel), by decide +kernel, by decide, rfl, ⟨by decide +kernel, by decide +kernel⟩, by decide +kernel⟩
def M_x_between : MD := (9, ⟨"SevenLeague", "between", "(II)I"⟩, prog_1_method_16_code, 3, (some .int))
theorem mk_x_between : Mok M_x_between 2 := ⟨gw_mem (p := 869) (by decide +kernel) (by decide +kernel), gw_mem (p := 106) (by decide +kernel) (by decide +kernel), by decide +kernel, by decide, rfl, ⟨by decide +kernel, by decide +kernel⟩, by decide +kernel⟩
def M_x_bit : MD := (9, ⟨"SevenLeague", "bit", "(JI)Z"⟩, prog_1_method_82_code, 3, (some .boolean))
theorem mk_x_bit : Mok M_x_bit 2 := ⟨gw_mem (p := 725) (by decide +kernel) (by decide +kernel), gw_mem (p := 106) (by decide +kernel) (by decide +kernel), by decide +kernel, by decide, rfl, ⟨by decide +kernel, by decide +kernel⟩, by decide +kernel⟩
def M_x_boots : MD := (9, ⟨"SevenLeague", "boots", "(I)I"⟩, prog_1_method_8_code, 2, (some .int))
theorem mk_x_boots : Mok M_x_boots 1 := ⟨gw_mem (p := 806) (by decide +kernel) (by decide +kernel), gw_mem (p := 106) (by decide +kernel) (by decide +kernel), by decide +kernel, by decide, rfl, ⟨by decide +kernel, by decide +kernel⟩, by decide +kernel⟩
def M_x_bootsTrouble : MD := (9, ⟨"SevenLeague", "bootsTrouble", "(I)I"⟩, prog_1_method_67_code, 2, (some .int))
theorem mk_x_bootsTrouble : Mok M_x_bootsTrouble 1 := ⟨gw_mem (p := 810) (by decide +kernel) (by decide +kernel), gw_mem (p := 106) (by decide +kernel) (by decide +kernel), by decide +kernel, by decide, rfl, ⟨by decide +kernel, by decide +kernel⟩, by decide +kernel⟩
def M_x_cell : MD := (9, ⟨"SevenLeague", "cell", "(II)I"⟩, prog_1_method_6_code, 3, (some .int))
theorem mk_x_cell : Mok M_x_cell 2 := ⟨gw_mem (p := 775) (by decide +kernel) (by decide +kernel), gw_mem (p := 106) (by decide +kernel) (by decide +kernel), by decide +kernel, by decide, rfl, ⟨by decide +kernel, by decide +kernel⟩, by decide +kernel⟩
def M_x_cellTrouble : MD := (9, ⟨"SevenLeague", "cellTrouble", "(I)I"⟩, prog_1_method_65_code, 2, (some .int))
theorem mk_x_cellTrouble : Mok M_x_cellTrouble 1 := ⟨gw_mem (p := 779) (by decide +kernel) (by decide +kernel), gw_mem (p := 106) (by decide +kernel) (by decide +kernel), by decide +kernel, by decide, rfl, ⟨by decide +kernel, by decide +kernel⟩, by decide +kernel⟩
def M_x_come : MD := (9, ⟨"SevenLeague", "come", "(I)I"⟩, prog_1_method_28_code, 2, (some .int))
theorem mk_x_come : Mok M_x_come 1 := ⟨gw_mem (p := 1000) (by decide +kernel) (by decide +kernel), gw_mem (p := 106) (by decide +kernel) (by decide +kernel), by decide +kernel, by decide, rfl, ⟨by decide +kernel, by decide +kernel⟩, by decide +kernel⟩
def M_x_comeAt : MD := (9, ⟨"SevenLeague", "comeAt", "(II)I"⟩, prog_1_method_29_code, 4, (some .int))
theorem mk_x_comeAt : Mok M_x_comeAt 2 := ⟨gw_mem (p := 1037) (by decide +kernel) (by decide +kernel), gw_mem (p := 106) (by decide +kernel) (by decide +kernel), by decide +kernel, by decide, rfl, ⟨by decide +kernel, by decide +kernel⟩, by decide +kernel⟩
def M_x_costs : MD := (9, ⟨"SevenLeague", "costs", "(II)I"⟩, prog_1_method_25_code, 4, (some .int))
theorem mk_x_costs : Mok M_x_costs 2 := ⟨gw_mem (p := 967) (by decide +kernel) (by decide +kernel), gw_mem (p := 106) (by decide +kernel) (by decide +kernel), by decide +kernel, by decide, rfl, ⟨by decide +kernel, by decide +kernel⟩, by decide +kernel⟩
def M_x_could : MD := (9, ⟨"SevenLeague", "could", "()I"⟩, prog_1_method_42_code, 1, (some .int))
theorem mk_x_could : Mok M_x_could 0 := ⟨gw_mem (p := 1180) (by decide +kernel) (by decide +kernel), gw_mem (p := 106) (by decide +kernel) (by decide +kernel), by decide +kernel, by decide, rfl, ⟨by decide +kernel, by decide +kernel⟩, by decide +kernel⟩
def M_x_curate : MD := (9, ⟨"SevenLeague", "curate", "()I"⟩, prog_1_method_10_code, 1, (some .int))
theorem mk_x_curate : Mok M_x_curate 0 := ⟨gw_mem (p := 822) (by decide +kernel) (by decide +kernel), gw_mem (p := 106) (by decide +kernel) (by decide +kernel), by decide +kernel, by decide, rfl, ⟨by decide +kernel, by decide +kernel⟩, by decide +kernel⟩
def M_x_deep : MD := (9, ⟨"SevenLeague", "deep", "(II)I"⟩, prog_1_method_17_code, 3, (some .int))
theorem mk_x_deep : Mok M_x_deep 2 := ⟨gw_mem (p := 878) (by decide +kernel) (by decide +kernel), gw_mem (p := 106) (by decide +kernel) (by decide +kernel), by decide +kernel, by decide, rfl, ⟨by decide +kernel, by decide +kernel⟩, by decide +kernel⟩
def M_x_digitFor : MD := (9, ⟨"SevenLeague", "digitFo\x72", "(II)I"⟩, prog_1_method_80_code, 2, (some .int))
theorem mk_x_digitFor : Mok M_x_digitFor 2 := ⟨gw_mem (p := 717) (by decide +kernel) (by decide +kernel), gw_mem (p := 106) (by decide +kernel) (by decide +kernel), by decide +kernel, by decide, rfl, ⟨by decide +kernel, by decide +kernel⟩, by decide +kernel⟩
def M_x_digitOf : MD := (9, ⟨"SevenLeague", "digitOf", "(III)I"⟩, prog_1_method_81_code, 5, (some .int))
theorem mk_x_digitOf : Mok M_x_digitOf 3 := ⟨gw_mem (p := 986) (by decide +kernel) (by decide +kernel), gw_mem (p := 106) (by decide +kernel) (by decide +kernel), by decide +kernel, by decide, rfl, ⟨by decide +kernel, by decide +kernel⟩, by decide +kernel⟩
def M_x_drawn : MD := (9, ⟨"SevenLeague", "drawn", "(III)I"⟩, prog_1_method_52_code, 7, (some .int))
theorem mk_x_drawn : Mok M_x_drawn 3 := ⟨gw_mem (p := 1267) (by decide +kernel) (by decide +kernel), gw_mem (p := 106) (by decide +kernel) (by decide +kernel), by decide +kernel, by decide, rfl, ⟨by decide +kernel, by decide +kernel⟩, by decide +kernel⟩
def M_x_fault : MD := (9, ⟨"SevenLeague", "fault", "()I"⟩, prog_1_method_4_code, 1, (some .int))
theorem mk_x_fault : Mok M_x_fault 0 := ⟨gw_mem (p := 767) (by decide +kernel) (by decide +kernel), gw_mem (p := 106) (by decide +kernel) (by decide +kernel), by decide +kernel, by decide, rfl, ⟨by decide +kernel, by decide +kernel⟩, by decide +kernel⟩
def M_x_feed : MD := (9, ⟨"SevenLeague", "feed", "(IIIII)I"⟩, prog_1_method_2_code, 6, (some .int))
theorem mk_x_feed : Mok M_x_feed 5 := ⟨gw_mem (p := 510) (by decide +kernel) (by decide +kernel), gw_mem (p := 106) (by decide +kernel) (by decide +kernel), by decide +kernel, by decide, rfl, ⟨by decide +kernel, by decide +kernel⟩, by decide +kernel⟩
def M_x_fill : MD := (9, ⟨"SevenLeague", "fill", "(I)I"⟩, prog_1_method_56_code, 3, (some .int))
theorem mk_x_fill : Mok M_x_fill 1 := ⟨gw_mem (p := 1299) (by decide +kernel) (by decide +kernel), gw_mem (p := 106) (by decide +kernel) (by decide +kernel), by decide +kernel, by decide, rfl, ⟨by decide +kernel, by decide +kernel⟩, by decide +kernel⟩
def M_x_fitAt : MD := (9, ⟨"SevenLeague", "fitAt", "(I)I"⟩, prog_1_method_41_code, 4, (some .int))
theorem mk_x_fitAt : Mok M_x_fitAt 1 := ⟨gw_mem (p := 1173) (by decide +kernel) (by decide +kernel), gw_mem (p := 106) (by decide +kernel) (by decide +kernel), by decide +kernel, by decide, rfl, ⟨by decide +kernel, by decide +kernel⟩, by decide +kernel⟩
def M_x_fits : MD := (9, ⟨"SevenLeague", "fits", "()I"⟩, prog_1_method_40_code, 1, (some .int))
theorem mk_x_fits : Mok M_x_fits 0 := ⟨gw_mem (p := 1146) (by decide +kernel) (by decide +kernel), gw_mem (p := 106) (by decide +kernel) (by decide +kernel), by decide +kernel, by decide, rfl, ⟨by decide +kernel, by decide +kernel⟩, by decide +kernel⟩
def M_x_goes : MD := (9, ⟨"SevenLeague", "goes", "(IZZZ)I"⟩, prog_1_method_47_code, 5, (some .int))
theorem mk_x_goes : Mok M_x_goes 4 := ⟨gw_mem (p := 1224) (by decide +kernel) (by decide +kernel), gw_mem (p := 106) (by decide +kernel) (by decide +kernel), by decide +kernel, by decide, rfl, ⟨by decide +kernel, by decide +kernel⟩, by decide +kernel⟩
def M_x_gone : MD := (9, ⟨"SevenLeague", "gone", "()I"⟩, prog_1_method_11_code, 1, (some .int))
theorem mk_x_gone : Mok M_x_gone 0 := ⟨gw_mem (p := 826) (by decide +kernel) (by decide +kernel), gw_mem (p := 106) (by decide +kernel) (by decide +kernel), by decide +kernel, by decide, rfl, ⟨by decide +kernel, by decide +kernel⟩, by decide +kernel⟩
def M_x_goneBehind : MD := (9, ⟨"SevenLeague", "goneBehind", "(I)J"⟩, prog_1_method_72_code, 3, (some .long))
theorem mk_x_goneBehind : Mok M_x_goneBehind 1 := ⟨gw_mem (p := 905) (by decide +kernel) (by decide +kernel), gw_mem (p := 106) (by decide +kernel) (by decide +kernel), by decide +kernel, by decide, rfl, ⟨by decide +kernel, by decide +kernel⟩, by decide +kernel⟩
def M_x_goneIn : MD := (9, ⟨"SevenLeague", "goneIn", "(I)I"⟩, prog_1_method_19_code, 2, (some .int))
theorem mk_x_goneIn : Mok M_x_goneIn 1 := ⟨gw_mem (p := 897) (by decide +kernel) (by decide +kernel), gw_mem (p := 106) (by decide +kernel) (by decide +kernel), by decide +kernel, by decide, rfl, ⟨by decide +kernel, by decide +kernel⟩, by decide +kernel⟩
def M_x_granted : MD := (9, ⟨"SevenLeague", "granted", "(I)Z"⟩, prog_1_method_63_code, 2, (some .boolean))
theorem mk_x_granted : Mok M_x_granted 1 := ⟨gw_mem (p := 522) (by decide +kernel) (by decide +kernel), gw_mem (p := 106) (by decide +kernel) (by decide +kernel), by decide +kernel, by decide, rfl, ⟨by decide +kernel, by decide +kernel⟩, by decide +kernel⟩
def M_x_image : MD := (9, ⟨"SevenLeague", "image", "()I"⟩, prog_1_method_58_code, 1, (some .int))
theorem mk_x_image : Mok M_x_image 0 := ⟨gw_mem (p := 1319) (by decide +kernel) (by decide +kernel), gw_mem (p := 106) (by decide +kernel) (by decide +kernel), by decide +kernel, by decide, rfl, ⟨by decide +kernel, by decide +kernel⟩, by decide +kernel⟩
def M_x_inLowestTerms : MD := (9, ⟨"SevenLeague", "inLowestTerms", "(JJZ)J"⟩, prog_1_method_79_code, 12, (some .long))
theorem mk_x_inLowestTerms : Mok M_x_inLowestTerms 3 := ⟨gw_mem (p := 1259) (by decide +kernel) (by decide +kernel), gw_mem (p := 106) (by decide +kernel) (by decide +kernel), by decide +kernel, by decide, rfl, ⟨by decide +kernel, by decide +kernel⟩, by decide +kernel⟩
def M_x_inside : MD := (9, ⟨"SevenLeague", "inside", "(II)J"⟩, prog_1_method_85_code, 2, (some .long))
theorem mk_x_inside : Mok M_x_inside 2 := ⟨gw_mem (p := 728) (by decide +kernel) (by decide +kernel), gw_mem (p := 106) (by decide +kernel) (by decide +kernel), by decide +kernel, by decide, rfl, ⟨by decide +kernel, by decide +kernel⟩, by decide +kernel⟩
def M_x_isRest : MD := (9, ⟨"SevenLeague", "isRest", "(IZZ)Z"⟩, prog_1_method_78_code, 3, (some .boolean))
theorem mk_x_isRest : Mok M_x_isRest 3 := ⟨gw_mem (p := 1234) (by decide +kernel) (by decide +kernel), gw_mem (p := 106) (by decide +kernel) (by decide +kernel), by decide +kernel, by decide, rfl, ⟨by decide +kernel, by decide +kernel⟩, by decide +kernel⟩
def M_x_judge : MD := (9, ⟨"SevenLeague", "judge", "()I"⟩, prog_1_method_46_code, 1, (some .int))
theorem mk_x_judge : Mok M_x_judge 0 := ⟨gw_mem (p := 1216) (by decide +kernel) (by decide +kernel), gw_mem (p := 106) (by decide +kernel) (by decide +kernel), by decide +kernel, by decide, rfl, ⟨by decide +kernel, by decide +kernel⟩, by decide +kernel⟩
def M_x_knownPaths : MD := (9, ⟨"SevenLeague", "knownPaths", "()LSevenLeague$Paths;"⟩, prog_1_method_75_code, 1, (some (.object "SevenLeague$Paths")))
theorem mk_x_knownPaths : Mok M_x_knownPaths 0 := ⟨gw_mem (p := 1004) (by decide +kernel) (by decide +kernel), gw_mem (p := 106) (by decide +kernel) (by decide +kernel), by decide +kernel, by decide, rfl, ⟨by decide +kernel, by decide +kernel⟩, by decide +kernel⟩
def M_x_land : MD := (9, ⟨"SevenLeague", "land", "(I)I"⟩, prog_1_method_3_code, 3, (some .int))
theorem mk_x_land : Mok M_x_land 1 := ⟨gw_mem (p := 518) (by decide +kernel) (by decide +kernel), gw_mem (p := 106) (by decide +kernel) (by decide +kernel), by decide +kernel, by decide, rfl, ⟨by decide +kernel, by decide +kernel⟩, by decide +kernel⟩
def M_x_landTrouble : MD := (9, ⟨"SevenLeague", "landTrouble", "()I"⟩, prog_1_method_64_code, 1, (some .int))
theorem mk_x_landTrouble : Mok M_x_landTrouble 0 := ⟨gw_mem (p := 818) (by decide +kernel) (by decide +kernel), gw_mem (p := 106) (by decide +kernel) (by decide +kernel), by decide +kernel, by decide, rfl, ⟨by decide +kernel, by decide +kernel⟩, by decide +kernel⟩
def M_x_leads : MD := (9, ⟨"SevenLeague", "leads", "(II)I"⟩, prog_1_method_23_code, 3, (some .int))
theorem mk_x_leads : Mok M_x_leads 2 := ⟨gw_mem (p := 945) (by decide +kernel) (by decide +kernel), gw_mem (p := 106) (by decide +kernel) (by decide +kernel), by decide +kernel, by decide, rfl, ⟨by decide +kernel, by decide +kernel⟩, by decide +kernel⟩
def M_x_longest : MD := (9, ⟨"SevenLeague", "longest", "()I"⟩, prog_1_method_14_code, 1, (some .int))
theorem mk_x_longest : Mok M_x_longest 0 := ⟨gw_mem (p := 854) (by decide +kernel) (by decide +kernel), gw_mem (p := 106) (by decide +kernel) (by decide +kernel), by decide +kernel, by decide, rfl, ⟨by decide +kernel, by decide +kernel⟩, by decide +kernel⟩
def M_x_longestRun : MD := (9, ⟨"SevenLeague", "longestRun", "(J)I"⟩, prog_1_method_87_code, 6, (some .int))
theorem mk_x_longestRun : Mok M_x_longestRun 1 := ⟨gw_mem (p := 857) (by decide +kernel) (by decide +kernel), gw_mem (p := 106) (by decide +kernel) (by decide +kernel), by decide +kernel, by decide, rfl, ⟨by decide +kernel, by decide +kernel⟩, by decide +kernel⟩
def M_x_lost : MD := (9, ⟨"SevenLeague", "lost", "()I"⟩, prog_1_method_12_code, 1, (some .int))
theorem mk_x_lost : Mok M_x_lost 0 := ⟨gw_mem (p := 836) (by decide +kernel) (by decide +kernel), gw_mem (p := 106) (by decide +kernel) (by decide +kernel), by decide +kernel, by decide, rfl, ⟨by decide +kernel, by decide +kernel⟩, by decide +kernel⟩
def M_x_lostIn : MD := (9, ⟨"SevenLeague", "lostIn", "(I)I"⟩, prog_1_method_20_code, 2, (some .int))
theorem mk_x_lostIn : Mok M_x_lostIn 1 := ⟨gw_mem (p := 932) (by decide +kernel) (by decide +kernel), gw_mem (p := 106) (by decide +kernel) (by decide +kernel), by decide +kernel, by decide, rfl, ⟨by decide +kernel, by decide +kernel⟩, by decide +kernel⟩
def M_x_makeRow : MD := (9, ⟨"SevenLeague", "makeRow", "(II)Z"⟩, prog_1_method_74_code, 4, (some .boolean))
theorem mk_x_makeRow : Mok M_x_makeRow 2 := ⟨gw_mem (p := 983) (by decide +kernel) (by decide +kernel), gw_mem (p := 106) (by decide +kernel) (by decide +kernel), by decide +kernel, by decide, rfl, ⟨by decide +kernel, by decide +kernel⟩, by decide +kernel⟩
def M_x_mean : MD := (9, ⟨"SevenLeague", "mean", "(IIZ)J"⟩, prog_1_method_51_code, 4, (some .long))
theorem mk_x_mean : Mok M_x_mean 3 := ⟨gw_mem (p := 1263) (by decide +kernel) (by decide +kernel), gw_mem (p := 106) (by decide +kernel) (by decide +kernel), by decide +kernel, by decide, rfl, ⟨by decide +kernel, by decide +kernel⟩, by decide +kernel⟩
def M_x_nearest : MD := (9, ⟨"SevenLeague", "nearest", "()I"⟩, prog_1_method_18_code, 1, (some .int))
theorem mk_x_nearest : Mok M_x_nearest 0 := ⟨gw_mem (p := 887) (by decide +kernel) (by decide +kernel), gw_mem (p := 106) (by decide +kernel) (by decide +kernel), by decide +kernel, by decide, rfl, ⟨by decide +kernel, by decide +kernel⟩, by decide +kernel⟩
def M_x_never : MD := (9, ⟨"SevenLeague", "neve\x72", "()I"⟩, prog_1_method_35_code, 1, (some .int))
theorem mk_x_never : Mok M_x_never 0 := ⟨gw_mem (p := 1093) (by decide +kernel) (by decide +kernel), gw_mem (p := 106) (by decide +kernel) (by decide +kernel), by decide +kernel, by decide, rfl, ⟨by decide +kernel, by decide +kernel⟩, by decide +kernel⟩
def M_x_nthBit : MD := (9, ⟨"SevenLeague", "nthBit", "(II)I"⟩, prog_1_method_88_code, 4, (some .int))
theorem mk_x_nthBit : Mok M_x_nthBit 2 := ⟨gw_mem (p := 1176) (by decide +kernel) (by decide +kernel), gw_mem (p := 106) (by decide +kernel) (by decide +kernel), by decide +kernel, by decide, rfl, ⟨by decide +kernel, by decide +kernel⟩, by decide +kernel⟩
def M_x_numberTrouble : MD := (9, ⟨"SevenLeague", "numberTrouble", "(II)I"⟩, prog_1_method_70_code, 3, (some .int))
theorem mk_x_numberTrouble : Mok M_x_numberTrouble 2 := ⟨gw_mem (p := 901) (by decide +kernel) (by decide +kernel), gw_mem (p := 106) (by decide +kernel) (by decide +kernel), by decide +kernel, by decide, rfl, ⟨by decide +kernel, by decide +kernel⟩, by decide +kernel⟩
def M_x_odds : MD := (9, ⟨"SevenLeague", "odds", "(IIIZ)J"⟩, prog_1_method_50_code, 5, (some .long))
theorem mk_x_odds : Mok M_x_odds 4 := ⟨gw_mem (p := 1242) (by decide +kernel) (by decide +kernel), gw_mem (p := 106) (by decide +kernel) (by decide +kernel), by decide +kernel, by decide, rfl, ⟨by decide +kernel, by decide +kernel⟩, by decide +kernel⟩
def M_x_over : MD := (9, ⟨"SevenLeague", "ove\x72", "(I)I"⟩, prog_1_method_34_code, 3, (some .int))
theorem mk_x_over : Mok M_x_over 1 := ⟨gw_mem (p := 1078) (by decide +kernel) (by decide +kernel), gw_mem (p := 106) (by decide +kernel) (by decide +kernel), by decide +kernel, by decide, rfl, ⟨by decide +kernel, by decide +kernel⟩, by decide +kernel⟩
def M_x_pairTrouble : MD := (9, ⟨"SevenLeague", "pairTrouble", "(II)I"⟩, prog_1_method_66_code, 3, (some .int))
theorem mk_x_pairTrouble : Mok M_x_pairTrouble 2 := ⟨gw_mem (p := 873) (by decide +kernel) (by decide +kernel), gw_mem (p := 106) (by decide +kernel) (by decide +kernel), by decide +kernel, by decide, rfl, ⟨by decide +kernel, by decide +kernel⟩, by decide +kernel⟩
def M_x_passes : MD := (9, ⟨"SevenLeague", "passes", "(II)I"⟩, prog_1_method_24_code, 4, (some .int))
theorem mk_x_passes : Mok M_x_passes 2 := ⟨gw_mem (p := 962) (by decide +kernel) (by decide +kernel), gw_mem (p := 106) (by decide +kernel) (by decide +kernel), by decide +kernel, by decide, rfl, ⟨by decide +kernel, by decide +kernel⟩, by decide +kernel⟩
def M_x_place : MD := (9, ⟨"SevenLeague", "place", "(II)I"⟩, prog_1_method_7_code, 4, (some .int))
theorem mk_x_place : Mok M_x_place 2 := ⟨gw_mem (p := 793) (by decide +kernel) (by decide +kernel), gw_mem (p := 106) (by decide +kernel) (by decide +kernel), by decide +kernel, by decide, rfl, ⟨by decide +kernel, by decide +kernel⟩, by decide +kernel⟩
def M_x_reach : MD := (9, ⟨"SevenLeague", "reach", "(I)I"⟩, prog_1_method_32_code, 2, (some .int))
theorem mk_x_reach : Mok M_x_reach 1 := ⟨gw_mem (p := 1061) (by decide +kernel) (by decide +kernel), gw_mem (p := 106) (by decide +kernel) (by decide +kernel), by decide +kernel, by decide, rfl, ⟨by decide +kernel, by decide +kernel⟩, by decide +kernel⟩
def M_x_rest : MD := (9, ⟨"SevenLeague", "rest", "(I)I"⟩, prog_1_method_49_code, 3, (some .int))
theorem mk_x_rest : Mok M_x_rest 1 := ⟨gw_mem (p := 1238) (by decide +kernel) (by decide +kernel), gw_mem (p := 106) (by decide +kernel) (by decide +kernel), by decide +kernel, by decide, rfl, ⟨by decide +kernel, by decide +kernel⟩, by decide +kernel⟩
def M_x_rests : MD := (9, ⟨"SevenLeague", "rests", "(I)I"⟩, prog_1_method_48_code, 4, (some .int))
theorem mk_x_rests : Mok M_x_rests 1 := ⟨gw_mem (p := 1231) (by decide +kernel) (by decide +kernel), gw_mem (p := 106) (by decide +kernel) (by decide +kernel), by decide +kernel, by decide, rfl, ⟨by decide +kernel, by decide +kernel⟩, by decide +kernel⟩
def M_x_rowLeads : MD := (9, ⟨"SevenLeague", "rowLeads", "(II)I"⟩, prog_1_method_26_code, 3, (some .int))
theorem mk_x_rowLeads : Mok M_x_rowLeads 2 := ⟨gw_mem (p := 971) (by decide +kernel) (by decide +kernel), gw_mem (p := 106) (by decide +kernel) (by decide +kernel), by decide +kernel, by decide, rfl, ⟨by decide +kernel, by decide +kernel⟩, by decide +kernel⟩
def M_x_rowLost : MD := (9, ⟨"SevenLeague", "rowLost", "(II)I"⟩, prog_1_method_27_code, 3, (some .int))
theorem mk_x_rowLost : Mok M_x_rowLost 2 := ⟨gw_mem (p := 996) (by decide +kernel) (by decide +kernel), gw_mem (p := 106) (by decide +kernel) (by decide +kernel), by decide +kernel, by decide, rfl, ⟨by decide +kernel, by decide +kernel⟩, by decide +kernel⟩
def M_x_rowTrouble : MD := (9, ⟨"SevenLeague", "rowTrouble", "(II)I"⟩, prog_1_method_71_code, 3, (some .int))
theorem mk_x_rowTrouble : Mok M_x_rowTrouble 2 := ⟨gw_mem (p := 975) (by decide +kernel) (by decide +kernel), gw_mem (p := 106) (by decide +kernel) (by decide +kernel), by decide +kernel, by decide, rfl, ⟨by decide +kernel, by decide +kernel⟩, by decide +kernel⟩
def M_x_runFrom : MD := (9, ⟨"SevenLeague", "runFrom", "(JI)I"⟩, prog_1_method_86_code, 5, (some .int))
theorem mk_x_runFrom : Mok M_x_runFrom 2 := ⟨gw_mem (p := 860) (by decide +kernel) (by decide +kernel), gw_mem (p := 106) (by decide +kernel) (by decide +kernel), by decide +kernel, by decide, rfl, ⟨by decide +kernel, by decide +kernel⟩, by decide +kernel⟩
def M_x_shareOf : MD := (9, ⟨"SevenLeague", "shareOf", "(IZZ)I"⟩, prog_1_method_77_code, 3, (some .int))
theorem mk_x_shareOf : Mok M_x_shareOf 3 := ⟨gw_mem (p := 1227) (by decide +kernel) (by decide +kernel), gw_mem (p := 106) (by decide +kernel) (by decide +kernel), by decide +kernel, by decide, rfl, ⟨by decide +kernel, by decide +kernel⟩, by decide +kernel⟩
def M_x_size : MD := (9, ⟨"SevenLeague", "size", "(I)I"⟩, prog_1_method_61_code, 2, (some .int))
theorem mk_x_size : Mok M_x_size 1 := ⟨gw_mem (p := 1329) (by decide +kernel) (by decide +kernel), gw_mem (p := 106) (by decide +kernel) (by decide +kernel), by decide +kernel, by decide, rfl, ⟨by decide +kernel, by decide +kernel⟩, by decide +kernel⟩
def M_x_son : MD := (9, ⟨"SevenLeague", "son", "()I"⟩, prog_1_method_9_code, 1, (some .int))
theorem mk_x_son : Mok M_x_son 0 := ⟨gw_mem (p := 814) (by decide +kernel) (by decide +kernel), gw_mem (p := 106) (by decide +kernel) (by decide +kernel), by decide +kernel, by decide, rfl, ⟨by decide +kernel, by decide +kernel⟩, by decide +kernel⟩
def M_x_span : MD := (9, ⟨"SevenLeague", "span", "(II)J"⟩, prog_1_method_84_code, 2, (some .long))
theorem mk_x_span : Mok M_x_span 2 := ⟨gw_mem (p := 658) (by decide +kernel) (by decide +kernel), gw_mem (p := 106) (by decide +kernel) (by decide +kernel), by decide +kernel, by decide, rfl, ⟨by decide +kernel, by decide +kernel⟩, by decide +kernel⟩
def M_x_spare : MD := (9, ⟨"SevenLeague", "spare", "(I)I"⟩, prog_1_method_30_code, 2, (some .int))
theorem mk_x_spare : Mok M_x_spare 1 := ⟨gw_mem (p := 1045) (by decide +kernel) (by decide +kernel), gw_mem (p := 106) (by decide +kernel) (by decide +kernel), by decide +kernel, by decide, rfl, ⟨by decide +kernel, by decide +kernel⟩, by decide +kernel⟩
def M_x_spareRow : MD := (9, ⟨"SevenLeague", "spareRow", "(I)I"⟩, prog_1_method_31_code, 2, (some .int))
theorem mk_x_spareRow : Mok M_x_spareRow 1 := ⟨gw_mem (p := 1053) (by decide +kernel) (by decide +kernel), gw_mem (p := 106) (by decide +kernel) (by decide +kernel), by decide +kernel, by decide, rfl, ⟨by decide +kernel, by decide +kernel⟩, by decide +kernel⟩
def M_x_step : MD := (9, ⟨"SevenLeague", "step", "(I)I"⟩, prog_1_method_54_code, 3, (some .int))
theorem mk_x_step : Mok M_x_step 1 := ⟨gw_mem (p := 1290) (by decide +kernel) (by decide +kernel), gw_mem (p := 106) (by decide +kernel) (by decide +kernel), by decide +kernel, by decide, rfl, ⟨by decide +kernel, by decide +kernel⟩, by decide +kernel⟩
def M_x_steps : MD := (9, ⟨"SevenLeague", "steps", "(I)I"⟩, prog_1_method_39_code, 4, (some .int))
theorem mk_x_steps : Mok M_x_steps 1 := ⟨gw_mem (p := 1142) (by decide +kernel) (by decide +kernel), gw_mem (p := 106) (by decide +kernel) (by decide +kernel), by decide +kernel, by decide, rfl, ⟨by decide +kernel, by decide +kernel⟩, by decide +kernel⟩
def M_x_stillIn : MD := (9, ⟨"SevenLeague", "stillIn", "()I"⟩, prog_1_method_22_code, 2, (some .int))
theorem mk_x_stillIn : Mok M_x_stillIn 0 := ⟨gw_mem (p := 940) (by decide +kernel) (by decide +kernel), gw_mem (p := 106) (by decide +kernel) (by decide +kernel), by decide +kernel, by decide, rfl, ⟨by decide +kernel, by decide +kernel⟩, by decide +kernel⟩
def M_x_stretches : MD := (9, ⟨"SevenLeague", "stretches", "()I"⟩, prog_1_method_13_code, 3, (some .int))
theorem mk_x_stretches : Mok M_x_stretches 0 := ⟨gw_mem (p := 845) (by decide +kernel) (by decide +kernel), gw_mem (p := 106) (by decide +kernel) (by decide +kernel), by decide +kernel, by decide, rfl, ⟨by decide +kernel, by decide +kernel⟩, by decide +kernel⟩
def M_x_stride : MD := (9, ⟨"SevenLeague", "stride", "(II)I"⟩, prog_1_method_53_code, 3, (some .int))
theorem mk_x_stride : Mok M_x_stride 2 := ⟨gw_mem (p := 1273) (by decide +kernel) (by decide +kernel), gw_mem (p := 106) (by decide +kernel) (by decide +kernel), by decide +kernel, by decide, rfl, ⟨by decide +kernel, by decide +kernel⟩, by decide +kernel⟩
def M_x_strideTrouble : MD := (9, ⟨"SevenLeague", "strideTrouble", "(II)I"⟩, prog_1_method_69_code, 3, (some .int))
theorem mk_x_strideTrouble : Mok M_x_strideTrouble 2 := ⟨gw_mem (p := 949) (by decide +kernel) (by decide +kernel), gw_mem (p := 106) (by decide +kernel) (by decide +kernel), by decide +kernel, by decide, rfl, ⟨by decide +kernel, by decide +kernel⟩, by decide +kernel⟩
def M_x_sum : MD := (9, ⟨"SevenLeague", "sum", "(I)I"⟩, prog_1_method_33_code, 2, (some .int))
theorem mk_x_sum : Mok M_x_sum 1 := ⟨gw_mem (p := 1070) (by decide +kernel) (by decide +kernel), gw_mem (p := 106) (by decide +kernel) (by decide +kernel), by decide +kernel, by decide, rfl, ⟨by decide +kernel, by decide +kernel⟩, by decide +kernel⟩
def M_x_surely : MD := (9, ⟨"SevenLeague", "surely", "()I"⟩, prog_1_method_43_code, 1, (some .int))
theorem mk_x_surely : Mok M_x_surely 0 := ⟨gw_mem (p := 1189) (by decide +kernel) (by decide +kernel), gw_mem (p := 106) (by decide +kernel) (by decide +kernel), by decide +kernel, by decide, rfl, ⟨by decide +kernel, by decide +kernel⟩, by decide +kernel⟩
def M_x_targetNow : MD := (9, ⟨"SevenLeague", "targetNow", "(II)I"⟩, prog_1_method_73_code, 3, (some .int))
theorem mk_x_targetNow : Mok M_x_targetNow 2 := ⟨gw_mem (p := 956) (by decide +kernel) (by decide +kernel), gw_mem (p := 106) (by decide +kernel) (by decide +kernel), by decide +kernel, by decide, rfl, ⟨by decide +kernel, by decide +kernel⟩, by decide +kernel⟩
def M_x_tour : MD := (9, ⟨"SevenLeague", "tou\x72", "(I)I"⟩, prog_1_method_36_code, 2, (some .int))
theorem mk_x_tour : Mok M_x_tour 1 := ⟨gw_mem (p := 1102) (by decide +kernel) (by decide +kernel), gw_mem (p := 106) (by decide +kernel) (by decide +kernel), by decide +kernel, by decide, rfl, ⟨by decide +kernel, by decide +kernel⟩, by decide +kernel⟩
def M_x_tourAt : MD := (9, ⟨"SevenLeague", "tourAt", "(II)I"⟩, prog_1_method_38_code, 3, (some .int))
theorem mk_x_tourAt : Mok M_x_tourAt 2 := ⟨gw_mem (p := 1133) (by decide +kernel) (by decide +kernel), gw_mem (p := 106) (by decide +kernel) (by decide +kernel), by decide +kernel, by decide, rfl, ⟨by decide +kernel, by decide +kernel⟩, by decide +kernel⟩
def M_x_tourGone : MD := (9, ⟨"SevenLeague", "tourGone", "(I)I"⟩, prog_1_method_37_code, 2, (some .int))
theorem mk_x_tourGone : Mok M_x_tourGone 1 := ⟨gw_mem (p := 1129) (by decide +kernel) (by decide +kernel), gw_mem (p := 106) (by decide +kernel) (by decide +kernel), by decide +kernel, by decide, rfl, ⟨by decide +kernel, by decide +kernel⟩, by decide +kernel⟩
def M_x_trouble : MD := (9, ⟨"SevenLeague", "trouble", "()I"⟩, prog_1_method_62_code, 1, (some .int))
theorem mk_x_trouble : Mok M_x_trouble 0 := ⟨gw_mem (p := 1333) (by decide +kernel) (by decide +kernel), gw_mem (p := 106) (by decide +kernel) (by decide +kernel), by decide +kernel, by decide, rfl, ⟨by decide +kernel, by decide +kernel⟩, by decide +kernel⟩
def M_x_undo : MD := (9, ⟨"SevenLeague", "undo", "()Z"⟩, prog_1_method_57_code, 1, (some .boolean))
theorem mk_x_undo : Mok M_x_undo 0 := ⟨gw_mem (p := 1307) (by decide +kernel) (by decide +kernel), gw_mem (p := 106) (by decide +kernel) (by decide +kernel), by decide +kernel, by decide, rfl, ⟨by decide +kernel, by decide +kernel⟩, by decide +kernel⟩
def M_x_wayTrouble : MD := (9, ⟨"SevenLeague", "wayTrouble", "(I)I"⟩, prog_1_method_68_code, 1, (some .int))
theorem mk_x_wayTrouble : Mok M_x_wayTrouble 1 := ⟨gw_mem (p := 952) (by decide +kernel) (by decide +kernel), gw_mem (p := 106) (by decide +kernel) (by decide +kernel), by decide +kernel, by decide, rfl, ⟨by decide +kernel, by decide +kernel⟩, by decide +kernel⟩
def M_x_where : MD := (9, ⟨"SevenLeague", "where", "()I"⟩, prog_1_method_5_code, 1, (some .int))
theorem mk_x_where : Mok M_x_where 0 := ⟨gw_mem (p := 771) (by decide +kernel) (by decide +kernel), gw_mem (p := 106) (by decide +kernel) (by decide +kernel), by decide +kernel, by decide, rfl, ⟨by decide +kernel, by decide +kernel⟩, by decide +kernel⟩
def M_x_widest : MD := (9, ⟨"SevenLeague", "widest", "()I"⟩, prog_1_method_15_code, 2, (some .int))
theorem mk_x_widest : Mok M_x_widest 0 := ⟨gw_mem (p := 865) (by decide +kernel) (by decide +kernel), gw_mem (p := 106) (by decide +kernel) (by decide +kernel), by decide +kernel, by decide, rfl, ⟨by decide +kernel, by decide +kernel⟩, by decide +kernel⟩
def M_x_year : MD := (9, ⟨"SevenLeague", "yea\x72", "()I"⟩, prog_1_method_55_code, 2, (some .int))
theorem mk_x_year : Mok M_x_year 0 := ⟨gw_mem (p := 1295) (by decide +kernel) (by decide +kernel), gw_mem (p := 106) (by decide +kernel) (by decide +kernel), by decide +kernel, by decide, rfl, ⟨by decide +kernel, by decide +kernel⟩, by decide +kernel⟩
theorem ln_0_33 : LnV 0 33 M_state_goneCells := ⟨gw_mem (p := 1248) (by decide +kernel) (by decide +kernel), gw_mem (p := 796) (by decide +kernel) (by decide +kernel), gw_mem (p := 797) (by decide +kernel) (by decide +kernel)⟩
theorem ln_0_42 : LnV 0 42 M_chances_goOn := ⟨gw_mem (p := 1249) (by decide +kernel) (by decide +kernel), gw_mem (p := 1251) (by decide +kernel) (by decide +kernel), gw_mem (p := 44) (by decide +kernel) (by decide +kernel)⟩
theorem ln_0_46 : LnV 0 46 M_country_lostFolk := ⟨gw_mem (p := 1253) (by decide +kernel) (by decide +kernel), gw_mem (p := 838) (by decide +kernel) (by decide +kernel), gw_mem (p := 839) (by decide +kernel) (by decide +kernel)⟩
theorem ln_0_52 : LnN 0 52 M_x_digitOf := ⟨by decide +kernel, gw_mem (p := 985) (by decide +kernel) (by decide +kernel)⟩
theorem ln_0_56 : LnV 0 56 M_country_target := ⟨gw_mem (p := 1255) (by decide +kernel) (by decide +kernel), gw_mem (p := 719) (by decide +kernel) (by decide +kernel), gw_mem (p := 720) (by decide +kernel) (by decide +kernel)⟩
theorem ln_0_63 : LnN 0 63 M_x_inside := ⟨by decide +kernel, gw_mem (p := 727) (by decide +kernel) (by decide +kernel)⟩
theorem ln_1_102 : LnV 1 102 M_country_fitsAll := ⟨gw_mem (p := 1151) (by decide +kernel) (by decide +kernel), gw_mem (p := 1153) (by decide +kernel) (by decide +kernel), gw_mem (p := 41) (by decide +kernel) (by decide +kernel)⟩
theorem ln_1_105 : LnV 1 105 M_country_digitIn := ⟨gw_mem (p := 1155) (by decide +kernel) (by decide +kernel), gw_mem (p := 1157) (by decide +kernel) (by decide +kernel), gw_mem (p := 42) (by decide +kernel) (by decide +kernel)⟩
theorem ln_1_109 : LnV 1 109 M_country_target := ⟨gw_mem (p := 1159) (by decide +kernel) (by decide +kernel), gw_mem (p := 719) (by decide +kernel) (by decide +kernel), gw_mem (p := 720) (by decide +kernel) (by decide +kernel)⟩
theorem ln_1_113 : LnV 1 113 M_country_unlikeSeen := ⟨gw_mem (p := 1160) (by decide +kernel) (by decide +kernel), gw_mem (p := 1162) (by decide +kernel) (by decide +kernel), gw_mem (p := 43) (by decide +kernel) (by decide +kernel)⟩
theorem ln_1_116 : LnV 1 116 M_country_fittingSets := ⟨gw_mem (p := 1185) (by decide +kernel) (by decide +kernel), gw_mem (p := 1148) (by decide +kernel) (by decide +kernel), gw_mem (p := 1149) (by decide +kernel) (by decide +kernel)⟩
theorem ln_1_120 : LnS 1 120 M_ji_bitCount := ⟨gw_mem (p := 1206) (by decide +kernel) (by decide +kernel), gw_mem (p := 1165) (by decide +kernel) (by decide +kernel)⟩
theorem ln_1_129 : LnV 1 129 M_country_leftBy := ⟨gw_mem (p := 1202) (by decide +kernel) (by decide +kernel), gw_mem (p := 1203) (by decide +kernel) (by decide +kernel), gw_mem (p := 1204) (by decide +kernel) (by decide +kernel)⟩
theorem ln_1_67 : LnN 1 67 M_x_below := ⟨by decide +kernel, gw_mem (p := 661) (by decide +kernel) (by decide +kernel)⟩
theorem ln_1_73 : LnN 1 73 M_x_bit := ⟨by decide +kernel, gw_mem (p := 724) (by decide +kernel) (by decide +kernel)⟩
theorem ln_1_77 : LnV 1 77 M_numbers_indexOf := ⟨gw_mem (p := 703) (by decide +kernel) (by decide +kernel), gw_mem (p := 704) (by decide +kernel) (by decide +kernel), gw_mem (p := 705) (by decide +kernel) (by decide +kernel)⟩
theorem ln_1_81 : LnV 1 81 M_numbers_at := ⟨gw_mem (p := 722) (by decide +kernel) (by decide +kernel), gw_mem (p := 683) (by decide +kernel) (by decide +kernel), gw_mem (p := 684) (by decide +kernel) (by decide +kernel)⟩
theorem ln_1_84 : LnV 1 84 M_country_isLost := ⟨gw_mem (p := 841) (by decide +kernel) (by decide +kernel), gw_mem (p := 800) (by decide +kernel) (by decide +kernel), gw_mem (p := 801) (by decide +kernel) (by decide +kernel)⟩
theorem ln_1_88 : LnN 1 88 M_x_inside := ⟨by decide +kernel, gw_mem (p := 727) (by decide +kernel) (by decide +kernel)⟩
theorem ln_1_92 : LnS 1 92 M_jl_bitCount := ⟨gw_mem (p := 893) (by decide +kernel) (by decide +kernel), gw_mem (p := 828) (by decide +kernel) (by decide +kernel)⟩
theorem ln_1_98 : LnV 1 98 M_country_partsAll := ⟨gw_mem (p := 1083) (by decide +kernel) (by decide +kernel), gw_mem (p := 1085) (by decide +kernel) (by decide +kernel), gw_mem (p := 37) (by decide +kernel) (by decide +kernel)⟩
theorem ln_10_103 : LnS 10 103 M_m_isDigit := ⟨gw_mem (p := 1600) (by decide +kernel) (by decide +kernel), gw_mem (p := 1601) (by decide +kernel) (by decide +kernel)⟩
theorem ln_10_113 : LnV 10 113 M_js_length := ⟨gw_mem (p := 1612) (by decide +kernel) (by decide +kernel), gw_mem (p := 566) (by decide +kernel) (by decide +kernel), gw_mem (p := 567) (by decide +kernel) (by decide +kernel)⟩
theorem ln_10_119 : LnV 10 119 M_js_charAt := ⟨gw_mem (p := 1613) (by decide +kernel) (by decide +kernel), gw_mem (p := 576) (by decide +kernel) (by decide +kernel), gw_mem (p := 577) (by decide +kernel) (by decide +kernel)⟩
theorem ln_10_123 : LnV 10 123 M_m_isWord := ⟨gw_mem (p := 1608) (by decide +kernel) (by decide +kernel), gw_mem (p := 1610) (by decide +kernel) (by decide +kernel), gw_mem (p := 52) (by decide +kernel) (by decide +kernel)⟩
theorem ln_10_127 : LnV 10 127 M_m_next := ⟨gw_mem (p := 1589) (by decide +kernel) (by decide +kernel), gw_mem (p := 1591) (by decide +kernel) (by decide +kernel), gw_mem (p := 49) (by decide +kernel) (by decide +kernel)⟩
theorem ln_10_130 : LnV 10 130 M_m_takesWord := ⟨gw_mem (p := 1631) (by decide +kernel) (by decide +kernel), gw_mem (p := 1633) (by decide +kernel) (by decide +kernel), gw_mem (p := 57) (by decide +kernel) (by decide +kernel)⟩
theorem ln_10_133 : LnV 10 133 M_m_wrong := ⟨gw_mem (p := 1618) (by decide +kernel) (by decide +kernel), gw_mem (p := 1620) (by decide +kernel) (by decide +kernel), gw_mem (p := 54) (by decide +kernel) (by decide +kernel)⟩
theorem ln_10_150 : LnV 10 150 M_m_mustName := ⟨gw_mem (p := 1674) (by decide +kernel) (by decide +kernel), gw_mem (p := 1676) (by decide +kernel) (by decide +kernel), gw_mem (p := 65) (by decide +kernel) (by decide +kernel)⟩
theorem ln_10_153 : LnV 10 153 M_m_find := ⟨gw_mem (p := 1682) (by decide +kernel) (by decide +kernel), gw_mem (p := 1684) (by decide +kernel) (by decide +kernel), gw_mem (p := 66) (by decide +kernel) (by decide +kernel)⟩
theorem ln_10_156 : LnS 10 156 M_m_in := ⟨gw_mem (p := 1582) (by decide +kernel) (by decide +kernel), gw_mem (p := 1583) (by decide +kernel) (by decide +kernel)⟩
theorem ln_10_160 : LnV 10 160 M_m_numberHere := ⟨gw_mem (p := 1639) (by decide +kernel) (by decide +kernel), gw_mem (p := 1641) (by decide +kernel) (by decide +kernel), gw_mem (p := 59) (by decide +kernel) (by decide +kernel)⟩
theorem ln_10_164 : LnV 10 164 M_m_pass := ⟨gw_mem (p := 1643) (by decide +kernel) (by decide +kernel), gw_mem (p := 1645) (by decide +kernel) (by decide +kernel), gw_mem (p := 60) (by decide +kernel) (by decide +kernel)⟩
theorem ln_10_167 : LnV 10 167 M_m_must := ⟨gw_mem (p := 1627) (by decide +kernel) (by decide +kernel), gw_mem (p := 1629) (by decide +kernel) (by decide +kernel), gw_mem (p := 56) (by decide +kernel) (by decide +kernel)⟩
theorem ln_10_171 : LnV 10 171 M_m_number := ⟨gw_mem (p := 1635) (by decide +kernel) (by decide +kernel), gw_mem (p := 1637) (by decide +kernel) (by decide +kernel), gw_mem (p := 58) (by decide +kernel) (by decide +kernel)⟩
theorem ln_10_174 : LnV 10 174 M_m_anew := ⟨gw_mem (p := 1578) (by decide +kernel) (by decide +kernel), gw_mem (p := 1580) (by decide +kernel) (by decide +kernel), gw_mem (p := 47) (by decide +kernel) (by decide +kernel)⟩
theorem ln_10_177 : LnV 10 177 M_m_no := ⟨gw_mem (p := 1585) (by decide +kernel) (by decide +kernel), gw_mem (p := 1587) (by decide +kernel) (by decide +kernel), gw_mem (p := 48) (by decide +kernel) (by decide +kernel)⟩
theorem ln_10_180 : LnV 10 180 M_m_readLine := ⟨gw_mem (p := 1603) (by decide +kernel) (by decide +kernel), gw_mem (p := 1605) (by decide +kernel) (by decide +kernel), gw_mem (p := 51) (by decide +kernel) (by decide +kernel)⟩
theorem ln_10_183 : LnS 10 183 M_m_copy := ⟨gw_mem (p := 1650) (by decide +kernel) (by decide +kernel), gw_mem (p := 1651) (by decide +kernel) (by decide +kernel)⟩
theorem ln_10_196 : LnV 10 196 M_m_landLine := ⟨gw_mem (p := 1614) (by decide +kernel) (by decide +kernel), gw_mem (p := 1616) (by decide +kernel) (by decide +kernel), gw_mem (p := 53) (by decide +kernel) (by decide +kernel)⟩
theorem ln_10_199 : LnV 10 199 M_m_begins := ⟨gw_mem (p := 1654) (by decide +kernel) (by decide +kernel), gw_mem (p := 1656) (by decide +kernel) (by decide +kernel), gw_mem (p := 61) (by decide +kernel) (by decide +kernel)⟩
theorem ln_10_203 : LnV 10 203 M_m_groundLine := ⟨gw_mem (p := 1658) (by decide +kernel) (by decide +kernel), gw_mem (p := 1660) (by decide +kernel) (by decide +kernel), gw_mem (p := 62) (by decide +kernel) (by decide +kernel)⟩
theorem ln_10_206 : LnV 10 206 M_m_bootsLine := ⟨gw_mem (p := 1666) (by decide +kernel) (by decide +kernel), gw_mem (p := 1668) (by decide +kernel) (by decide +kernel), gw_mem (p := 63) (by decide +kernel) (by decide +kernel)⟩
theorem ln_10_209 : LnV 10 209 M_m_placeLine := ⟨gw_mem (p := 1686) (by decide +kernel) (by decide +kernel), gw_mem (p := 1688) (by decide +kernel) (by decide +kernel), gw_mem (p := 67) (by decide +kernel) (by decide +kernel)⟩
theorem ln_10_212 : LnV 10 212 M_m_strideLine := ⟨gw_mem (p := 1696) (by decide +kernel) (by decide +kernel), gw_mem (p := 1698) (by decide +kernel) (by decide +kernel), gw_mem (p := 69) (by decide +kernel) (by decide +kernel)⟩
theorem ln_10_215 : LnV 10 215 M_m_unsureLine := ⟨gw_mem (p := 1708) (by decide +kernel) (by decide +kernel), gw_mem (p := 1710) (by decide +kernel) (by decide +kernel), gw_mem (p := 70) (by decide +kernel) (by decide +kernel)⟩
theorem ln_10_218 : LnV 10 218 M_m_seenLine := ⟨gw_mem (p := 1712) (by decide +kernel) (by decide +kernel), gw_mem (p := 1714) (by decide +kernel) (by decide +kernel), gw_mem (p := 71) (by decide +kernel) (by decide +kernel)⟩
theorem ln_10_223 : LnV 10 223 M_m_after := ⟨gw_mem (p := 1623) (by decide +kernel) (by decide +kernel), gw_mem (p := 1625) (by decide +kernel) (by decide +kernel), gw_mem (p := 55) (by decide +kernel) (by decide +kernel)⟩
theorem ln_10_239 : LnV 10 239 M_m_newName := ⟨gw_mem (p := 1670) (by decide +kernel) (by decide +kernel), gw_mem (p := 1672) (by decide +kernel) (by decide +kernel), gw_mem (p := 64) (by decide +kernel) (by decide +kernel)⟩
theorem ln_10_244 : LnV 10 244 M_m_cellHere := ⟨gw_mem (p := 1691) (by decide +kernel) (by decide +kernel), gw_mem (p := 1693) (by decide +kernel) (by decide +kernel), gw_mem (p := 68) (by decide +kernel) (by decide +kernel)⟩
theorem ln_10_253 : LnS 10 253 M_m_strideOn := ⟨gw_mem (p := 1702) (by decide +kernel) (by decide +kernel), gw_mem (p := 1703) (by decide +kernel) (by decide +kernel)⟩
theorem ln_10_261 : LnV 10 261 M_m_why := ⟨gw_mem (p := 1819) (by decide +kernel) (by decide +kernel), gw_mem (p := 1821) (by decide +kernel) (by decide +kernel), gw_mem (p := 81) (by decide +kernel) (by decide +kernel)⟩
theorem ln_10_265 : LnS 10 265 M_m_leadOf := ⟨gw_mem (p := 1705) (by decide +kernel) (by decide +kernel), gw_mem (p := 1706) (by decide +kernel) (by decide +kernel)⟩
theorem ln_10_272 : LnV 10 272 M_m_begin := ⟨gw_mem (p := 1827) (by decide +kernel) (by decide +kernel), gw_mem (p := 1829) (by decide +kernel) (by decide +kernel), gw_mem (p := 83) (by decide +kernel) (by decide +kernel)⟩
theorem ln_10_275 : LnV 10 275 M_m_yearOn := ⟨gw_mem (p := 1831) (by decide +kernel) (by decide +kernel), gw_mem (p := 1833) (by decide +kernel) (by decide +kernel), gw_mem (p := 84) (by decide +kernel) (by decide +kernel)⟩
theorem ln_10_279 : LnV 10 279 M_m_isCell := ⟨gw_mem (p := 1730) (by decide +kernel) (by decide +kernel), gw_mem (p := 1732) (by decide +kernel) (by decide +kernel), gw_mem (p := 72) (by decide +kernel) (by decide +kernel)⟩
theorem ln_10_282 : LnV 10 282 M_m_placeAt := ⟨gw_mem (p := 1734) (by decide +kernel) (by decide +kernel), gw_mem (p := 1736) (by decide +kernel) (by decide +kernel), gw_mem (p := 73) (by decide +kernel) (by decide +kernel)⟩
theorem ln_10_285 : LnV 10 285 M_m_isPlace := ⟨gw_mem (p := 1742) (by decide +kernel) (by decide +kernel), gw_mem (p := 1744) (by decide +kernel) (by decide +kernel), gw_mem (p := 74) (by decide +kernel) (by decide +kernel)⟩
theorem ln_10_288 : LnV 10 288 M_m_isBoots := ⟨gw_mem (p := 1750) (by decide +kernel) (by decide +kernel), gw_mem (p := 1752) (by decide +kernel) (by decide +kernel), gw_mem (p := 75) (by decide +kernel) (by decide +kernel)⟩
theorem ln_10_291 : LnV 10 291 M_m_goneOn := ⟨gw_mem (p := 1766) (by decide +kernel) (by decide +kernel), gw_mem (p := 1768) (by decide +kernel) (by decide +kernel), gw_mem (p := 76) (by decide +kernel) (by decide +kernel)⟩
theorem ln_10_294 : LnV 10 294 M_m_lostOn := ⟨gw_mem (p := 1774) (by decide +kernel) (by decide +kernel), gw_mem (p := 1776) (by decide +kernel) (by decide +kernel), gw_mem (p := 77) (by decide +kernel) (by decide +kernel)⟩
theorem ln_10_306 : LnV 10 306 M_m_seekRuns := ⟨gw_mem (p := 1782) (by decide +kernel) (by decide +kernel), gw_mem (p := 1784) (by decide +kernel) (by decide +kernel), gw_mem (p := 78) (by decide +kernel) (by decide +kernel)⟩
theorem ln_10_310 : LnV 10 310 M_m_goneFrom := ⟨gw_mem (p := 1798) (by decide +kernel) (by decide +kernel), gw_mem (p := 1800) (by decide +kernel) (by decide +kernel), gw_mem (p := 79) (by decide +kernel) (by decide +kernel)⟩
theorem ln_10_314 : LnV 10 314 M_m_aheadWhy := ⟨gw_mem (p := 1815) (by decide +kernel) (by decide +kernel), gw_mem (p := 1817) (by decide +kernel) (by decide +kernel), gw_mem (p := 80) (by decide +kernel) (by decide +kernel)⟩
theorem ln_10_318 : LnV 10 318 M_m_yearsOn := ⟨gw_mem (p := 1823) (by decide +kernel) (by decide +kernel), gw_mem (p := 1825) (by decide +kernel) (by decide +kernel), gw_mem (p := 82) (by decide +kernel) (by decide +kernel)⟩
theorem ln_10_321 : LnV 10 321 M_m_wayWhy := ⟨gw_mem (p := 1851) (by decide +kernel) (by decide +kernel), gw_mem (p := 1853) (by decide +kernel) (by decide +kernel), gw_mem (p := 85) (by decide +kernel) (by decide +kernel)⟩
theorem ln_10_324 : LnV 10 324 M_m_digitOn := ⟨gw_mem (p := 1875) (by decide +kernel) (by decide +kernel), gw_mem (p := 1877) (by decide +kernel) (by decide +kernel), gw_mem (p := 88) (by decide +kernel) (by decide +kernel)⟩
theorem ln_10_328 : LnV 10 328 M_m_rowWhy := ⟨gw_mem (p := 1867) (by decide +kernel) (by decide +kernel), gw_mem (p := 1869) (by decide +kernel) (by decide +kernel), gw_mem (p := 86) (by decide +kernel) (by decide +kernel)⟩
theorem ln_10_332 : LnV 10 332 M_m_makes := ⟨gw_mem (p := 1871) (by decide +kernel) (by decide +kernel), gw_mem (p := 1873) (by decide +kernel) (by decide +kernel), gw_mem (p := 87) (by decide +kernel) (by decide +kernel)⟩
theorem ln_10_350 : LnV 10 350 M_m_tryRows := ⟨gw_mem (p := 1891) (by decide +kernel) (by decide +kernel), gw_mem (p := 1893) (by decide +kernel) (by decide +kernel), gw_mem (p := 90) (by decide +kernel) (by decide +kernel)⟩
theorem ln_10_353 : LnV 10 353 M_m_seekRows := ⟨gw_mem (p := 1887) (by decide +kernel) (by decide +kernel), gw_mem (p := 1889) (by decide +kernel) (by decide +kernel), gw_mem (p := 89) (by decide +kernel) (by decide +kernel)⟩
theorem ln_10_356 : LnV 10 356 M_m_comeRow := ⟨gw_mem (p := 1899) (by decide +kernel) (by decide +kernel), gw_mem (p := 1901) (by decide +kernel) (by decide +kernel), gw_mem (p := 91) (by decide +kernel) (by decide +kernel)⟩
theorem ln_10_359 : LnV 10 359 M_m_laySums := ⟨gw_mem (p := 1919) (by decide +kernel) (by decide +kernel), gw_mem (p := 1921) (by decide +kernel) (by decide +kernel), gw_mem (p := 92) (by decide +kernel) (by decide +kernel)⟩
theorem ln_10_362 : LnV 10 362 M_m_stepOn := ⟨gw_mem (p := 1947) (by decide +kernel) (by decide +kernel), gw_mem (p := 1949) (by decide +kernel) (by decide +kernel), gw_mem (p := 96) (by decide +kernel) (by decide +kernel)⟩
theorem ln_10_368 : LnV 10 368 M_m_walks := ⟨gw_mem (p := 1943) (by decide +kernel) (by decide +kernel), gw_mem (p := 1945) (by decide +kernel) (by decide +kernel), gw_mem (p := 95) (by decide +kernel) (by decide +kernel)⟩
theorem ln_10_378 : LnV 10 378 M_m_tourWhy := ⟨gw_mem (p := 1935) (by decide +kernel) (by decide +kernel), gw_mem (p := 1937) (by decide +kernel) (by decide +kernel), gw_mem (p := 93) (by decide +kernel) (by decide +kernel)⟩
theorem ln_10_381 : LnV 10 381 M_m_seekTour := ⟨gw_mem (p := 1939) (by decide +kernel) (by decide +kernel), gw_mem (p := 1941) (by decide +kernel) (by decide +kernel), gw_mem (p := 94) (by decide +kernel) (by decide +kernel)⟩
theorem ln_10_384 : LnS 10 384 M_m_hasBit := ⟨gw_mem (p := 1959) (by decide +kernel) (by decide +kernel), gw_mem (p := 1960) (by decide +kernel) (by decide +kernel)⟩
theorem ln_10_396 : LnV 10 396 M_m_wrongBy := ⟨gw_mem (p := 1974) (by decide +kernel) (by decide +kernel), gw_mem (p := 1976) (by decide +kernel) (by decide +kernel), gw_mem (p := 98) (by decide +kernel) (by decide +kernel)⟩
theorem ln_10_399 : LnV 10 399 M_m_seekSets := ⟨gw_mem (p := 1970) (by decide +kernel) (by decide +kernel), gw_mem (p := 1972) (by decide +kernel) (by decide +kernel), gw_mem (p := 97) (by decide +kernel) (by decide +kernel)⟩
theorem ln_10_402 : LnV 10 402 M_m_leavesOf := ⟨gw_mem (p := 1998) (by decide +kernel) (by decide +kernel), gw_mem (p := 2000) (by decide +kernel) (by decide +kernel), gw_mem (p := 100) (by decide +kernel) (by decide +kernel)⟩
theorem ln_10_405 : LnV 10 405 M_m_askOf := ⟨gw_mem (p := 1994) (by decide +kernel) (by decide +kernel), gw_mem (p := 1996) (by decide +kernel) (by decide +kernel), gw_mem (p := 99) (by decide +kernel) (by decide +kernel)⟩
theorem ln_10_408 : LnS 10 408 M_m_goesOf := ⟨gw_mem (p := 2014) (by decide +kernel) (by decide +kernel), gw_mem (p := 2015) (by decide +kernel) (by decide +kernel)⟩
theorem ln_10_415 : LnV 10 415 M_m_seekRests := ⟨gw_mem (p := 2021) (by decide +kernel) (by decide +kernel), gw_mem (p := 2023) (by decide +kernel) (by decide +kernel), gw_mem (p := 101) (by decide +kernel) (by decide +kernel)⟩
theorem ln_10_428 : LnV 10 428 M_m_tryGout := ⟨gw_mem (p := 2033) (by decide +kernel) (by decide +kernel), gw_mem (p := 2035) (by decide +kernel) (by decide +kernel), gw_mem (p := 102) (by decide +kernel) (by decide +kernel)⟩
theorem ln_10_431 : LnS 10 431 M_m_lowest := ⟨gw_mem (p := 2037) (by decide +kernel) (by decide +kernel), gw_mem (p := 2038) (by decide +kernel) (by decide +kernel)⟩
theorem ln_10_437 : LnV 10 437 M_m_note := ⟨gw_mem (p := 2054) (by decide +kernel) (by decide +kernel), gw_mem (p := 2056) (by decide +kernel) (by decide +kernel), gw_mem (p := 103) (by decide +kernel) (by decide +kernel)⟩
theorem ln_10_440 : LnV 10 440 M_m_isNot := ⟨gw_mem (p := 2074) (by decide +kernel) (by decide +kernel), gw_mem (p := 2076) (by decide +kernel) (by decide +kernel), gw_mem (p := 104) (by decide +kernel) (by decide +kernel)⟩
theorem ln_10_83 : LnV 10 83 M_m_see := ⟨gw_mem (p := 1593) (by decide +kernel) (by decide +kernel), gw_mem (p := 1595) (by decide +kernel) (by decide +kernel), gw_mem (p := 50) (by decide +kernel) (by decide +kernel)⟩
theorem ln_10_99 : LnS 10 99 M_m_isSmall := ⟨gw_mem (p := 1597) (by decide +kernel) (by decide +kernel), gw_mem (p := 1598) (by decide +kernel) (by decide +kernel)⟩
theorem ln_15_1059 : LnS 15 1059 M_jp_checkIndex := ⟨gw_mem (p := 591) (by decide +kernel) (by decide +kernel), gw_mem (p := 592) (by decide +kernel) (by decide +kernel)⟩
theorem ln_15_335 : LnV 15 335 M_js_coder := ⟨gw_mem (p := 569) (by decide +kernel) (by decide +kernel), gw_mem (p := 570) (by decide +kernel) (by decide +kernel), gw_mem (p := 571) (by decide +kernel) (by decide +kernel)⟩
theorem ln_15_492 : LnV 15 492 M_js_isLatin1 := ⟨gw_mem (p := 579) (by decide +kernel) (by decide +kernel), gw_mem (p := 580) (by decide +kernel) (by decide +kernel), gw_mem (p := 581) (by decide +kernel) (by decide +kernel)⟩
theorem ln_15_495 : LnS 15 495 M_jsl_charAt := ⟨gw_mem (p := 583) (by decide +kernel) (by decide +kernel), gw_mem (p := 584) (by decide +kernel) (by decide +kernel)⟩
theorem ln_16_9 : LnS 16 9 M_js_checkIndex := ⟨gw_mem (p := 586) (by decide +kernel) (by decide +kernel), gw_mem (p := 587) (by decide +kernel) (by decide +kernel)⟩
theorem ln_2_27 : LnV 2 27 M_shelf_keep := ⟨gw_mem (p := 1278) (by decide +kernel) (by decide +kernel), gw_mem (p := 1279) (by decide +kernel) (by decide +kernel), gw_mem (p := 1280) (by decide +kernel) (by decide +kernel)⟩
theorem ln_2_37 : LnV 2 37 M_shelf_fetch := ⟨gw_mem (p := 1312) (by decide +kernel) (by decide +kernel), gw_mem (p := 1313) (by decide +kernel) (by decide +kernel), gw_mem (p := 1314) (by decide +kernel) (by decide +kernel)⟩
theorem ln_3_25 : LnV 3 25 M_numbers_at := ⟨gw_mem (p := 707) (by decide +kernel) (by decide +kernel), gw_mem (p := 683) (by decide +kernel) (by decide +kernel), gw_mem (p := 684) (by decide +kernel) (by decide +kernel)⟩
theorem ln_4_103 : LnN 4 103 M_x_inside := ⟨by decide +kernel, gw_mem (p := 727) (by decide +kernel) (by decide +kernel)⟩
theorem ln_4_108 : LnS 4 108 M_paths_get := ⟨gw_mem (p := 1024) (by decide +kernel) (by decide +kernel), gw_mem (p := 1025) (by decide +kernel) (by decide +kernel)⟩
theorem ln_4_112 : LnV 4 112 M_paths_fewestFor := ⟨gw_mem (p := 1098) (by decide +kernel) (by decide +kernel), gw_mem (p := 1072) (by decide +kernel) (by decide +kernel), gw_mem (p := 1073) (by decide +kernel) (by decide +kernel)⟩
theorem ln_4_52 : LnV 4 52 M_state_goneCells := ⟨gw_mem (p := 1009) (by decide +kernel) (by decide +kernel), gw_mem (p := 796) (by decide +kernel) (by decide +kernel), gw_mem (p := 797) (by decide +kernel) (by decide +kernel)⟩
theorem ln_4_61 : LnV 4 61 M_country_lostFolk := ⟨gw_mem (p := 1010) (by decide +kernel) (by decide +kernel), gw_mem (p := 838) (by decide +kernel) (by decide +kernel), gw_mem (p := 839) (by decide +kernel) (by decide +kernel)⟩
theorem ln_4_76 : LnV 4 76 M_numbers_at := ⟨gw_mem (p := 1011) (by decide +kernel) (by decide +kernel), gw_mem (p := 683) (by decide +kernel) (by decide +kernel), gw_mem (p := 684) (by decide +kernel) (by decide +kernel)⟩
theorem ln_4_80 : LnN 4 80 M_x_span := ⟨by decide +kernel, gw_mem (p := 657) (by decide +kernel) (by decide +kernel)⟩
theorem ln_4_84 : LnS 4 84 M_paths_put := ⟨gw_mem (p := 1013) (by decide +kernel) (by decide +kernel), gw_mem (p := 1014) (by decide +kernel) (by decide +kernel)⟩
theorem ln_4_88 : LnV 4 88 M_paths_explore := ⟨gw_mem (p := 1016) (by decide +kernel) (by decide +kernel), gw_mem (p := 1018) (by decide +kernel) (by decide +kernel), gw_mem (p := 35) (by decide +kernel) (by decide +kernel)⟩
theorem ln_4_92 : LnV 4 92 M_paths_note := ⟨gw_mem (p := 1020) (by decide +kernel) (by decide +kernel), gw_mem (p := 1022) (by decide +kernel) (by decide +kernel), gw_mem (p := 36) (by decide +kernel) (by decide +kernel)⟩
theorem ln_4_99 : LnV 4 99 M_country_target := ⟨gw_mem (p := 1027) (by decide +kernel) (by decide +kernel), gw_mem (p := 719) (by decide +kernel) (by decide +kernel), gw_mem (p := 720) (by decide +kernel) (by decide +kernel)⟩
theorem ln_5_102 : LnV 5 102 M_reader_headFits := ⟨gw_mem (p := 619) (by decide +kernel) (by decide +kernel), gw_mem (p := 621) (by decide +kernel) (by decide +kernel), gw_mem (p := 7) (by decide +kernel) (by decide +kernel)⟩
theorem ln_5_105 : LnV 5 105 M_reader_readLand := ⟨gw_mem (p := 629) (by decide +kernel) (by decide +kernel), gw_mem (p := 631) (by decide +kernel) (by decide +kernel), gw_mem (p := 9) (by decide +kernel) (by decide +kernel)⟩
theorem ln_5_108 : LnV 5 108 M_reader_readGround := ⟨gw_mem (p := 649) (by decide +kernel) (by decide +kernel), gw_mem (p := 651) (by decide +kernel) (by decide +kernel), gw_mem (p := 13) (by decide +kernel) (by decide +kernel)⟩
theorem ln_5_111 : LnV 5 111 M_reader_readBoots := ⟨gw_mem (p := 670) (by decide +kernel) (by decide +kernel), gw_mem (p := 672) (by decide +kernel) (by decide +kernel), gw_mem (p := 14) (by decide +kernel) (by decide +kernel)⟩
theorem ln_5_114 : LnV 5 114 M_reader_readPlace := ⟨gw_mem (p := 694) (by decide +kernel) (by decide +kernel), gw_mem (p := 696) (by decide +kernel) (by decide +kernel), gw_mem (p := 18) (by decide +kernel) (by decide +kernel)⟩
theorem ln_5_117 : LnV 5 117 M_reader_readStride := ⟨gw_mem (p := 709) (by decide +kernel) (by decide +kernel), gw_mem (p := 711) (by decide +kernel) (by decide +kernel), gw_mem (p := 19) (by decide +kernel) (by decide +kernel)⟩
theorem ln_5_120 : LnV 5 120 M_reader_readUnsure := ⟨gw_mem (p := 729) (by decide +kernel) (by decide +kernel), gw_mem (p := 731) (by decide +kernel) (by decide +kernel), gw_mem (p := 20) (by decide +kernel) (by decide +kernel)⟩
theorem ln_5_123 : LnV 5 123 M_reader_readSeen := ⟨gw_mem (p := 734) (by decide +kernel) (by decide +kernel), gw_mem (p := 736) (by decide +kernel) (by decide +kernel), gw_mem (p := 21) (by decide +kernel) (by decide +kernel)⟩
theorem ln_5_131 : LnV 5 131 M_reader_expect := ⟨gw_mem (p := 634) (by decide +kernel) (by decide +kernel), gw_mem (p := 636) (by decide +kernel) (by decide +kernel), gw_mem (p := 10) (by decide +kernel) (by decide +kernel)⟩
theorem ln_5_135 : LnV 5 135 M_reader_expectWhole := ⟨gw_mem (p := 638) (by decide +kernel) (by decide +kernel), gw_mem (p := 640) (by decide +kernel) (by decide +kernel), gw_mem (p := 11) (by decide +kernel) (by decide +kernel)⟩
theorem ln_5_143 : LnV 5 143 M_reader_expectCell := ⟨gw_mem (p := 643) (by decide +kernel) (by decide +kernel), gw_mem (p := 645) (by decide +kernel) (by decide +kernel), gw_mem (p := 12) (by decide +kernel) (by decide +kernel)⟩
theorem ln_5_163 : LnV 5 163 M_reader_isWord := ⟨gw_mem (p := 561) (by decide +kernel) (by decide +kernel), gw_mem (p := 563) (by decide +kernel) (by decide +kernel), gw_mem (p := 6) (by decide +kernel) (by decide +kernel)⟩
theorem ln_5_170 : LnN 5 170 M_x_span := ⟨by decide +kernel, gw_mem (p := 657) (by decide +kernel) (by decide +kernel)⟩
theorem ln_5_174 : LnV 5 174 M_country_setGround := ⟨gw_mem (p := 665) (by decide +kernel) (by decide +kernel), gw_mem (p := 666) (by decide +kernel) (by decide +kernel), gw_mem (p := 667) (by decide +kernel) (by decide +kernel)⟩
theorem ln_5_178 : LnV 5 178 M_reader_expectNewName := ⟨gw_mem (p := 674) (by decide +kernel) (by decide +kernel), gw_mem (p := 676) (by decide +kernel) (by decide +kernel), gw_mem (p := 15) (by decide +kernel) (by decide +kernel)⟩
theorem ln_5_181 : LnV 5 181 M_numbers_add := ⟨gw_mem (p := 690) (by decide +kernel) (by decide +kernel), gw_mem (p := 691) (by decide +kernel) (by decide +kernel), gw_mem (p := 692) (by decide +kernel) (by decide +kernel)⟩
theorem ln_5_186 : LnV 5 186 M_country_placeAt := ⟨gw_mem (p := 699) (by decide +kernel) (by decide +kernel), gw_mem (p := 700) (by decide +kernel) (by decide +kernel), gw_mem (p := 701) (by decide +kernel) (by decide +kernel)⟩
theorem ln_5_197 : LnV 5 197 M_reader_nameHere := ⟨gw_mem (p := 678) (by decide +kernel) (by decide +kernel), gw_mem (p := 680) (by decide +kernel) (by decide +kernel), gw_mem (p := 16) (by decide +kernel) (by decide +kernel)⟩
theorem ln_5_200 : LnV 5 200 M_numbers_at := ⟨gw_mem (p := 682) (by decide +kernel) (by decide +kernel), gw_mem (p := 683) (by decide +kernel) (by decide +kernel), gw_mem (p := 684) (by decide +kernel) (by decide +kernel)⟩
theorem ln_5_206 : LnN 5 206 M_x_digitFor := ⟨by decide +kernel, gw_mem (p := 716) (by decide +kernel) (by decide +kernel)⟩
theorem ln_5_213 : LnV 5 213 M_country_target := ⟨gw_mem (p := 718) (by decide +kernel) (by decide +kernel), gw_mem (p := 719) (by decide +kernel) (by decide +kernel), gw_mem (p := 720) (by decide +kernel) (by decide +kernel)⟩
theorem ln_5_217 : LnN 5 217 M_x_inside := ⟨by decide +kernel, gw_mem (p := 727) (by decide +kernel) (by decide +kernel)⟩
theorem ln_5_226 : LnV 5 226 M_numbers_indexOf := ⟨gw_mem (p := 733) (by decide +kernel) (by decide +kernel), gw_mem (p := 704) (by decide +kernel) (by decide +kernel), gw_mem (p := 705) (by decide +kernel) (by decide +kernel)⟩
theorem ln_5_239 : LnV 5 239 M_reader_isLike := ⟨gw_mem (p := 686) (by decide +kernel) (by decide +kernel), gw_mem (p := 688) (by decide +kernel) (by decide +kernel), gw_mem (p := 17) (by decide +kernel) (by decide +kernel)⟩
theorem ln_5_242 : LnV 5 242 M_reader_byteAt := ⟨gw_mem (p := 542) (by decide +kernel) (by decide +kernel), gw_mem (p := 544) (by decide +kernel) (by decide +kernel), gw_mem (p := 3) (by decide +kernel) (by decide +kernel)⟩
theorem ln_5_257 : LnV 5 257 M_js_length := ⟨gw_mem (p := 565) (by decide +kernel) (by decide +kernel), gw_mem (p := 566) (by decide +kernel) (by decide +kernel), gw_mem (p := 567) (by decide +kernel) (by decide +kernel)⟩
theorem ln_5_262 : LnV 5 262 M_js_charAt := ⟨gw_mem (p := 575) (by decide +kernel) (by decide +kernel), gw_mem (p := 576) (by decide +kernel) (by decide +kernel), gw_mem (p := 577) (by decide +kernel) (by decide +kernel)⟩
theorem ln_5_266 : LnS 5 266 M_reader_isLetter := ⟨gw_mem (p := 546) (by decide +kernel) (by decide +kernel), gw_mem (p := 547) (by decide +kernel) (by decide +kernel)⟩
theorem ln_5_269 : LnS 5 269 M_reader_isDigit := ⟨gw_mem (p := 549) (by decide +kernel) (by decide +kernel), gw_mem (p := 550) (by decide +kernel) (by decide +kernel)⟩
theorem ln_5_66 : LnV 5 66 M_reader_begin := ⟨gw_mem (p := 527) (by decide +kernel) (by decide +kernel), gw_mem (p := 529) (by decide +kernel) (by decide +kernel), gw_mem (p := 1) (by decide +kernel) (by decide +kernel)⟩
theorem ln_5_69 : LnV 5 69 M_reader_nextToken := ⟨gw_mem (p := 538) (by decide +kernel) (by decide +kernel), gw_mem (p := 540) (by decide +kernel) (by decide +kernel), gw_mem (p := 2) (by decide +kernel) (by decide +kernel)⟩
theorem ln_5_72 : LnV 5 72 M_reader_readLine := ⟨gw_mem (p := 552) (by decide +kernel) (by decide +kernel), gw_mem (p := 554) (by decide +kernel) (by decide +kernel), gw_mem (p := 4) (by decide +kernel) (by decide +kernel)⟩
theorem ln_5_76 : LnV 5 76 M_reader_endText := ⟨gw_mem (p := 740) (by decide +kernel) (by decide +kernel), gw_mem (p := 742) (by decide +kernel) (by decide +kernel), gw_mem (p := 22) (by decide +kernel) (by decide +kernel)⟩
theorem ln_5_85 : LnV 5 85 M_country_clear := ⟨gw_mem (p := 534) (by decide +kernel) (by decide +kernel), gw_mem (p := 535) (by decide +kernel) (by decide +kernel), gw_mem (p := 536) (by decide +kernel) (by decide +kernel)⟩
theorem ln_5_91 : LnV 5 91 M_reader_fail := ⟨gw_mem (p := 625) (by decide +kernel) (by decide +kernel), gw_mem (p := 627) (by decide +kernel) (by decide +kernel), gw_mem (p := 8) (by decide +kernel) (by decide +kernel)⟩
theorem ln_5_98 : LnV 5 98 M_reader_sortHere := ⟨gw_mem (p := 556) (by decide +kernel) (by decide +kernel), gw_mem (p := 558) (by decide +kernel) (by decide +kernel), gw_mem (p := 5) (by decide +kernel) (by decide +kernel)⟩
theorem ln_6_32 : LnV 6 32 M_shelf_has := ⟨gw_mem (p := 1282) (by decide +kernel) (by decide +kernel), gw_mem (p := 1284) (by decide +kernel) (by decide +kernel), gw_mem (p := 45) (by decide +kernel) (by decide +kernel)⟩
theorem ln_7_33 : LnV 7 33 M_country_lowDepth := ⟨gw_mem (p := 748) (by decide +kernel) (by decide +kernel), gw_mem (p := 749) (by decide +kernel) (by decide +kernel), gw_mem (p := 750) (by decide +kernel) (by decide +kernel)⟩
theorem ln_7_37 : LnV 7 37 M_country_highDepth := ⟨gw_mem (p := 752) (by decide +kernel) (by decide +kernel), gw_mem (p := 753) (by decide +kernel) (by decide +kernel), gw_mem (p := 754) (by decide +kernel) (by decide +kernel)⟩
theorem ln_7_46 : LnN 7 46 M_x_bit := ⟨by decide +kernel, gw_mem (p := 724) (by decide +kernel) (by decide +kernel)⟩
theorem ln_7_50 : LnS 7 50 M_jl_bitCount := ⟨gw_mem (p := 883) (by decide +kernel) (by decide +kernel), gw_mem (p := 828) (by decide +kernel) (by decide +kernel)⟩
theorem ln_7_56 : LnV 7 56 M_state_goneCells := ⟨gw_mem (p := 919) (by decide +kernel) (by decide +kernel), gw_mem (p := 796) (by decide +kernel) (by decide +kernel), gw_mem (p := 797) (by decide +kernel) (by decide +kernel)⟩
theorem ln_7_60 : LnV 7 60 M_country_target := ⟨gw_mem (p := 991) (by decide +kernel) (by decide +kernel), gw_mem (p := 719) (by decide +kernel) (by decide +kernel), gw_mem (p := 720) (by decide +kernel) (by decide +kernel)⟩
theorem ln_7_64 : LnN 7 64 M_x_inside := ⟨by decide +kernel, gw_mem (p := 727) (by decide +kernel) (by decide +kernel)⟩
theorem ln_7_70 : LnN 7 70 M_x_span := ⟨by decide +kernel, gw_mem (p := 657) (by decide +kernel) (by decide +kernel)⟩
theorem ln_7_73 : LnV 7 73 M_state_lessen := ⟨gw_mem (p := 925) (by decide +kernel) (by decide +kernel), gw_mem (p := 927) (by decide +kernel) (by decide +kernel), gw_mem (p := 29) (by decide +kernel) (by decide +kernel)⟩
theorem ln_7_77 : LnV 7 77 M_country_allCells := ⟨gw_mem (p := 918) (by decide +kernel) (by decide +kernel), gw_mem (p := 847) (by decide +kernel) (by decide +kernel), gw_mem (p := 848) (by decide +kernel) (by decide +kernel)⟩
theorem ln_7_80 : LnV 7 80 M_country_healable := ⟨gw_mem (p := 921) (by decide +kernel) (by decide +kernel), gw_mem (p := 922) (by decide +kernel) (by decide +kernel), gw_mem (p := 923) (by decide +kernel) (by decide +kernel)⟩
theorem ln_7_83 : LnV 7 83 M_state_healing := ⟨gw_mem (p := 914) (by decide +kernel) (by decide +kernel), gw_mem (p := 915) (by decide +kernel) (by decide +kernel), gw_mem (p := 916) (by decide +kernel) (by decide +kernel)⟩
theorem ln_8_45 : LnV 8 45 M_tours_walkOn := ⟨gw_mem (p := 1111) (by decide +kernel) (by decide +kernel), gw_mem (p := 1113) (by decide +kernel) (by decide +kernel), gw_mem (p := 39) (by decide +kernel) (by decide +kernel)⟩
theorem ln_8_49 : LnV 8 49 M_tours_compare := ⟨gw_mem (p := 1115) (by decide +kernel) (by decide +kernel), gw_mem (p := 1117) (by decide +kernel) (by decide +kernel), gw_mem (p := 40) (by decide +kernel) (by decide +kernel)⟩
theorem ln_8_58 : LnV 8 58 M_state_stepTo := ⟨gw_mem (p := 1121) (by decide +kernel) (by decide +kernel), gw_mem (p := 1122) (by decide +kernel) (by decide +kernel), gw_mem (p := 1123) (by decide +kernel) (by decide +kernel)⟩
theorem ln_8_62 : LnV 8 62 M_country_lostFolk := ⟨gw_mem (p := 1119) (by decide +kernel) (by decide +kernel), gw_mem (p := 838) (by decide +kernel) (by decide +kernel), gw_mem (p := 839) (by decide +kernel) (by decide +kernel)⟩
theorem ln_8_66 : LnS 8 66 M_jl_bitCount := ⟨gw_mem (p := 1120) (by decide +kernel) (by decide +kernel), gw_mem (p := 828) (by decide +kernel) (by decide +kernel)⟩
theorem ln_8_71 : LnN 8 71 M_x_bit := ⟨by decide +kernel, gw_mem (p := 724) (by decide +kernel) (by decide +kernel)⟩
theorem ln_9_100 : LnV 9 100 M_history_forget := ⟨gw_mem (p := 756) (by decide +kernel) (by decide +kernel), gw_mem (p := 757) (by decide +kernel) (by decide +kernel), gw_mem (p := 758) (by decide +kernel) (by decide +kernel)⟩
theorem ln_9_103 : LnV 9 103 M_paths_forget := ⟨gw_mem (p := 760) (by decide +kernel) (by decide +kernel), gw_mem (p := 761) (by decide +kernel) (by decide +kernel), gw_mem (p := 762) (by decide +kernel) (by decide +kernel)⟩
theorem ln_9_110 : LnV 9 110 M_x_cellTrouble := ⟨gw_mem (p := 776) (by decide +kernel) (by decide +kernel), gw_mem (p := 778) (by decide +kernel) (by decide +kernel), gw_mem (p := 23) (by decide +kernel) (by decide +kernel)⟩
theorem ln_9_114 : LnV 9 114 M_country_groundAt := ⟨gw_mem (p := 780) (by decide +kernel) (by decide +kernel), gw_mem (p := 781) (by decide +kernel) (by decide +kernel), gw_mem (p := 782) (by decide +kernel) (by decide +kernel)⟩
theorem ln_9_117 : LnV 9 117 M_state_depthAt := ⟨gw_mem (p := 784) (by decide +kernel) (by decide +kernel), gw_mem (p := 785) (by decide +kernel) (by decide +kernel), gw_mem (p := 786) (by decide +kernel) (by decide +kernel)⟩
theorem ln_9_120 : LnV 9 120 M_country_placeAt := ⟨gw_mem (p := 789) (by decide +kernel) (by decide +kernel), gw_mem (p := 700) (by decide +kernel) (by decide +kernel), gw_mem (p := 701) (by decide +kernel) (by decide +kernel)⟩
theorem ln_9_138 : LnV 9 138 M_numbers_at := ⟨gw_mem (p := 794) (by decide +kernel) (by decide +kernel), gw_mem (p := 683) (by decide +kernel) (by decide +kernel), gw_mem (p := 684) (by decide +kernel) (by decide +kernel)⟩
theorem ln_9_144 : LnV 9 144 M_state_goneCells := ⟨gw_mem (p := 795) (by decide +kernel) (by decide +kernel), gw_mem (p := 796) (by decide +kernel) (by decide +kernel), gw_mem (p := 797) (by decide +kernel) (by decide +kernel)⟩
theorem ln_9_148 : LnV 9 148 M_country_isLost := ⟨gw_mem (p := 799) (by decide +kernel) (by decide +kernel), gw_mem (p := 800) (by decide +kernel) (by decide +kernel), gw_mem (p := 801) (by decide +kernel) (by decide +kernel)⟩
theorem ln_9_152 : LnV 9 152 M_x_bootsTrouble := ⟨gw_mem (p := 807) (by decide +kernel) (by decide +kernel), gw_mem (p := 809) (by decide +kernel) (by decide +kernel), gw_mem (p := 24) (by decide +kernel) (by decide +kernel)⟩
theorem ln_9_158 : LnV 9 158 M_x_landTrouble := ⟨gw_mem (p := 815) (by decide +kernel) (by decide +kernel), gw_mem (p := 817) (by decide +kernel) (by decide +kernel), gw_mem (p := 25) (by decide +kernel) (by decide +kernel)⟩
theorem ln_9_162 : LnS 9 162 M_jl_bitCount := ⟨gw_mem (p := 827) (by decide +kernel) (by decide +kernel), gw_mem (p := 828) (by decide +kernel) (by decide +kernel)⟩
theorem ln_9_168 : LnV 9 168 M_country_lostFolk := ⟨gw_mem (p := 837) (by decide +kernel) (by decide +kernel), gw_mem (p := 838) (by decide +kernel) (by decide +kernel), gw_mem (p := 839) (by decide +kernel) (by decide +kernel)⟩
theorem ln_9_171 : LnV 9 171 M_country_allCells := ⟨gw_mem (p := 846) (by decide +kernel) (by decide +kernel), gw_mem (p := 847) (by decide +kernel) (by decide +kernel), gw_mem (p := 848) (by decide +kernel) (by decide +kernel)⟩
theorem ln_9_176 : LnS 9 176 M_x_longestRun := ⟨gw_mem (p := 855) (by decide +kernel) (by decide +kernel), gw_mem (p := 856) (by decide +kernel) (by decide +kernel)⟩
theorem ln_9_179 : LnS 9 179 M_x_runFrom := ⟨gw_mem (p := 858) (by decide +kernel) (by decide +kernel), gw_mem (p := 859) (by decide +kernel) (by decide +kernel)⟩
theorem ln_9_183 : LnV 9 183 M_x_pairTrouble := ⟨gw_mem (p := 870) (by decide +kernel) (by decide +kernel), gw_mem (p := 872) (by decide +kernel) (by decide +kernel), gw_mem (p := 26) (by decide +kernel) (by decide +kernel)⟩
theorem ln_9_187 : LnS 9 187 M_x_span := ⟨gw_mem (p := 874) (by decide +kernel) (by decide +kernel), gw_mem (p := 657) (by decide +kernel) (by decide +kernel)⟩
theorem ln_9_191 : LnV 9 191 M_state_depthOf := ⟨gw_mem (p := 879) (by decide +kernel) (by decide +kernel), gw_mem (p := 880) (by decide +kernel) (by decide +kernel), gw_mem (p := 881) (by decide +kernel) (by decide +kernel)⟩
theorem ln_9_194 : LnV 9 194 M_country_nearestParted := ⟨gw_mem (p := 888) (by decide +kernel) (by decide +kernel), gw_mem (p := 889) (by decide +kernel) (by decide +kernel), gw_mem (p := 890) (by decide +kernel) (by decide +kernel)⟩
theorem ln_9_197 : LnV 9 197 M_x_numberTrouble := ⟨gw_mem (p := 898) (by decide +kernel) (by decide +kernel), gw_mem (p := 900) (by decide +kernel) (by decide +kernel), gw_mem (p := 27) (by decide +kernel) (by decide +kernel)⟩
theorem ln_9_200 : LnV 9 200 M_x_goneBehind := ⟨gw_mem (p := 902) (by decide +kernel) (by decide +kernel), gw_mem (p := 904) (by decide +kernel) (by decide +kernel), gw_mem (p := 28) (by decide +kernel) (by decide +kernel)⟩
theorem ln_9_204 : LnV 9 204 M_state_copy := ⟨gw_mem (p := 906) (by decide +kernel) (by decide +kernel), gw_mem (p := 907) (by decide +kernel) (by decide +kernel), gw_mem (p := 908) (by decide +kernel) (by decide +kernel)⟩
theorem ln_9_208 : LnV 9 208 M_state_passYear := ⟨gw_mem (p := 910) (by decide +kernel) (by decide +kernel), gw_mem (p := 911) (by decide +kernel) (by decide +kernel), gw_mem (p := 912) (by decide +kernel) (by decide +kernel)⟩
theorem ln_9_211 : LnV 9 211 M_state_healing := ⟨gw_mem (p := 941) (by decide +kernel) (by decide +kernel), gw_mem (p := 915) (by decide +kernel) (by decide +kernel), gw_mem (p := 916) (by decide +kernel) (by decide +kernel)⟩
theorem ln_9_215 : LnV 9 215 M_x_strideTrouble := ⟨gw_mem (p := 946) (by decide +kernel) (by decide +kernel), gw_mem (p := 948) (by decide +kernel) (by decide +kernel), gw_mem (p := 30) (by decide +kernel) (by decide +kernel)⟩
theorem ln_9_218 : LnV 9 218 M_x_targetNow := ⟨gw_mem (p := 953) (by decide +kernel) (by decide +kernel), gw_mem (p := 955) (by decide +kernel) (by decide +kernel), gw_mem (p := 31) (by decide +kernel) (by decide +kernel)⟩
theorem ln_9_221 : LnS 9 221 M_x_inside := ⟨gw_mem (p := 963) (by decide +kernel) (by decide +kernel), gw_mem (p := 727) (by decide +kernel) (by decide +kernel)⟩
theorem ln_9_224 : LnV 9 224 M_x_rowTrouble := ⟨gw_mem (p := 972) (by decide +kernel) (by decide +kernel), gw_mem (p := 974) (by decide +kernel) (by decide +kernel), gw_mem (p := 32) (by decide +kernel) (by decide +kernel)⟩
theorem ln_9_227 : LnV 9 227 M_x_makeRow := ⟨gw_mem (p := 980) (by decide +kernel) (by decide +kernel), gw_mem (p := 982) (by decide +kernel) (by decide +kernel), gw_mem (p := 33) (by decide +kernel) (by decide +kernel)⟩
theorem ln_9_231 : LnV 9 231 M_x_knownPaths := ⟨gw_mem (p := 1001) (by decide +kernel) (by decide +kernel), gw_mem (p := 1003) (by decide +kernel) (by decide +kernel), gw_mem (p := 34) (by decide +kernel) (by decide +kernel)⟩
theorem ln_9_235 : LnV 9 235 M_paths_comeStrides := ⟨gw_mem (p := 1030) (by decide +kernel) (by decide +kernel), gw_mem (p := 1031) (by decide +kernel) (by decide +kernel), gw_mem (p := 1032) (by decide +kernel) (by decide +kernel)⟩
theorem ln_9_238 : LnV 9 238 M_paths_comeRow := ⟨gw_mem (p := 1038) (by decide +kernel) (by decide +kernel), gw_mem (p := 1039) (by decide +kernel) (by decide +kernel), gw_mem (p := 1040) (by decide +kernel) (by decide +kernel)⟩
theorem ln_9_241 : LnS 9 241 M_x_digitOf := ⟨gw_mem (p := 984) (by decide +kernel) (by decide +kernel), gw_mem (p := 985) (by decide +kernel) (by decide +kernel)⟩
theorem ln_9_245 : LnV 9 245 M_paths_spareLost := ⟨gw_mem (p := 1046) (by decide +kernel) (by decide +kernel), gw_mem (p := 1047) (by decide +kernel) (by decide +kernel), gw_mem (p := 1048) (by decide +kernel) (by decide +kernel)⟩
theorem ln_9_248 : LnV 9 248 M_paths_sparingRow := ⟨gw_mem (p := 1054) (by decide +kernel) (by decide +kernel), gw_mem (p := 1055) (by decide +kernel) (by decide +kernel), gw_mem (p := 1056) (by decide +kernel) (by decide +kernel)⟩
theorem ln_9_251 : LnV 9 251 M_paths_reached := ⟨gw_mem (p := 1062) (by decide +kernel) (by decide +kernel), gw_mem (p := 1063) (by decide +kernel) (by decide +kernel), gw_mem (p := 1064) (by decide +kernel) (by decide +kernel)⟩
theorem ln_9_256 : LnV 9 256 M_paths_fewestFor := ⟨gw_mem (p := 1071) (by decide +kernel) (by decide +kernel), gw_mem (p := 1072) (by decide +kernel) (by decide +kernel), gw_mem (p := 1073) (by decide +kernel) (by decide +kernel)⟩
theorem ln_9_260 : LnV 9 260 M_country_strideUnit := ⟨gw_mem (p := 1079) (by decide +kernel) (by decide +kernel), gw_mem (p := 1080) (by decide +kernel) (by decide +kernel), gw_mem (p := 1081) (by decide +kernel) (by decide +kernel)⟩
theorem ln_9_268 : LnV 9 268 M_paths_longestWithoutSum := ⟨gw_mem (p := 1094) (by decide +kernel) (by decide +kernel), gw_mem (p := 1095) (by decide +kernel) (by decide +kernel), gw_mem (p := 1096) (by decide +kernel) (by decide +kernel)⟩
theorem ln_9_272 : LnV 9 272 M_x_bestTour := ⟨gw_mem (p := 1103) (by decide +kernel) (by decide +kernel), gw_mem (p := 1105) (by decide +kernel) (by decide +kernel), gw_mem (p := 38) (by decide +kernel) (by decide +kernel)⟩
theorem ln_9_282 : LnV 9 282 M_tours_standsBehind := ⟨gw_mem (p := 1134) (by decide +kernel) (by decide +kernel), gw_mem (p := 1135) (by decide +kernel) (by decide +kernel), gw_mem (p := 1136) (by decide +kernel) (by decide +kernel)⟩
theorem ln_9_285 : LnV 9 285 M_country_fittingSets := ⟨gw_mem (p := 1147) (by decide +kernel) (by decide +kernel), gw_mem (p := 1148) (by decide +kernel) (by decide +kernel), gw_mem (p := 1149) (by decide +kernel) (by decide +kernel)⟩
theorem ln_9_288 : LnS 9 288 M_ji_bitCount := ⟨gw_mem (p := 1164) (by decide +kernel) (by decide +kernel), gw_mem (p := 1165) (by decide +kernel) (by decide +kernel)⟩
theorem ln_9_292 : LnS 9 292 M_x_nthBit := ⟨gw_mem (p := 1174) (by decide +kernel) (by decide +kernel), gw_mem (p := 1175) (by decide +kernel) (by decide +kernel)⟩
theorem ln_9_295 : LnV 9 295 M_country_inSomeFit := ⟨gw_mem (p := 1181) (by decide +kernel) (by decide +kernel), gw_mem (p := 1182) (by decide +kernel) (by decide +kernel), gw_mem (p := 1183) (by decide +kernel) (by decide +kernel)⟩
theorem ln_9_298 : LnV 9 298 M_country_inAllFits := ⟨gw_mem (p := 1190) (by decide +kernel) (by decide +kernel), gw_mem (p := 1191) (by decide +kernel) (by decide +kernel), gw_mem (p := 1192) (by decide +kernel) (by decide +kernel)⟩
theorem ln_9_301 : LnV 9 301 M_country_bestQuestion := ⟨gw_mem (p := 1198) (by decide +kernel) (by decide +kernel), gw_mem (p := 1199) (by decide +kernel) (by decide +kernel), gw_mem (p := 1200) (by decide +kernel) (by decide +kernel)⟩
theorem ln_9_304 : LnV 9 304 M_country_leftBy := ⟨gw_mem (p := 1212) (by decide +kernel) (by decide +kernel), gw_mem (p := 1203) (by decide +kernel) (by decide +kernel), gw_mem (p := 1204) (by decide +kernel) (by decide +kernel)⟩
theorem ln_9_307 : LnV 9 307 M_country_firstUnlike := ⟨gw_mem (p := 1217) (by decide +kernel) (by decide +kernel), gw_mem (p := 1218) (by decide +kernel) (by decide +kernel), gw_mem (p := 1219) (by decide +kernel) (by decide +kernel)⟩
theorem ln_9_310 : LnS 9 310 M_x_shareOf := ⟨gw_mem (p := 1225) (by decide +kernel) (by decide +kernel), gw_mem (p := 1226) (by decide +kernel) (by decide +kernel)⟩
theorem ln_9_314 : LnS 9 314 M_x_isRest := ⟨gw_mem (p := 1232) (by decide +kernel) (by decide +kernel), gw_mem (p := 1233) (by decide +kernel) (by decide +kernel)⟩
theorem ln_9_318 : LnV 9 318 M_chances_weigh := ⟨gw_mem (p := 1243) (by decide +kernel) (by decide +kernel), gw_mem (p := 1244) (by decide +kernel) (by decide +kernel), gw_mem (p := 1245) (by decide +kernel) (by decide +kernel)⟩
theorem ln_9_329 : LnS 9 329 M_x_inLowestTerms := ⟨gw_mem (p := 1257) (by decide +kernel) (by decide +kernel), gw_mem (p := 1258) (by decide +kernel) (by decide +kernel)⟩
theorem ln_9_340 : LnV 9 340 M_state_makeStride := ⟨gw_mem (p := 987) (by decide +kernel) (by decide +kernel), gw_mem (p := 988) (by decide +kernel) (by decide +kernel), gw_mem (p := 989) (by decide +kernel) (by decide +kernel)⟩
theorem ln_9_344 : LnV 9 344 M_history_keep := ⟨gw_mem (p := 1274) (by decide +kernel) (by decide +kernel), gw_mem (p := 1275) (by decide +kernel) (by decide +kernel), gw_mem (p := 1276) (by decide +kernel) (by decide +kernel)⟩
theorem ln_9_347 : LnS 9 347 M_x_digitFor := ⟨gw_mem (p := 957) (by decide +kernel) (by decide +kernel), gw_mem (p := 716) (by decide +kernel) (by decide +kernel)⟩
theorem ln_9_350 : LnS 9 350 M_x_wayTrouble := ⟨gw_mem (p := 950) (by decide +kernel) (by decide +kernel), gw_mem (p := 951) (by decide +kernel) (by decide +kernel)⟩
theorem ln_9_353 : LnV 9 353 M_state_stepTo := ⟨gw_mem (p := 1291) (by decide +kernel) (by decide +kernel), gw_mem (p := 1122) (by decide +kernel) (by decide +kernel), gw_mem (p := 1123) (by decide +kernel) (by decide +kernel)⟩
theorem ln_9_359 : LnV 9 359 M_state_fillUp := ⟨gw_mem (p := 1300) (by decide +kernel) (by decide +kernel), gw_mem (p := 1301) (by decide +kernel) (by decide +kernel), gw_mem (p := 1302) (by decide +kernel) (by decide +kernel)⟩
theorem ln_9_362 : LnV 9 362 M_history_takeBack := ⟨gw_mem (p := 1308) (by decide +kernel) (by decide +kernel), gw_mem (p := 1309) (by decide +kernel) (by decide +kernel), gw_mem (p := 1310) (by decide +kernel) (by decide +kernel)⟩
theorem ln_9_366 : LnV 9 366 M_shelf_keep := ⟨gw_mem (p := 1320) (by decide +kernel) (by decide +kernel), gw_mem (p := 1279) (by decide +kernel) (by decide +kernel), gw_mem (p := 1280) (by decide +kernel) (by decide +kernel)⟩
theorem ln_9_369 : LnV 9 369 M_shelf_fetch := ⟨gw_mem (p := 1325) (by decide +kernel) (by decide +kernel), gw_mem (p := 1313) (by decide +kernel) (by decide +kernel), gw_mem (p := 1314) (by decide +kernel) (by decide +kernel)⟩
theorem ln_9_387 : LnV 9 387 M_country_isRow := ⟨gw_mem (p := 976) (by decide +kernel) (by decide +kernel), gw_mem (p := 977) (by decide +kernel) (by decide +kernel), gw_mem (p := 978) (by decide +kernel) (by decide +kernel)⟩
theorem ln_9_390 : LnV 9 390 M_country_target := ⟨gw_mem (p := 958) (by decide +kernel) (by decide +kernel), gw_mem (p := 719) (by decide +kernel) (by decide +kernel), gw_mem (p := 720) (by decide +kernel) (by decide +kernel)⟩
theorem ln_9_394 : LnV 9 394 M_paths_know := ⟨gw_mem (p := 1005) (by decide +kernel) (by decide +kernel), gw_mem (p := 1006) (by decide +kernel) (by decide +kernel), gw_mem (p := 1007) (by decide +kernel) (by decide +kernel)⟩
theorem ln_9_398 : LnV 9 398 M_tours_seek := ⟨gw_mem (p := 1107) (by decide +kernel) (by decide +kernel), gw_mem (p := 1108) (by decide +kernel) (by decide +kernel), gw_mem (p := 1109) (by decide +kernel) (by decide +kernel)⟩
theorem ln_9_405 : LnS 9 405 M_x_below := ⟨gw_mem (p := 660) (by decide +kernel) (by decide +kernel), gw_mem (p := 661) (by decide +kernel) (by decide +kernel)⟩
theorem ln_9_411 : LnS 9 411 M_x_bit := ⟨gw_mem (p := 861) (by decide +kernel) (by decide +kernel), gw_mem (p := 724) (by decide +kernel) (by decide +kernel)⟩
theorem ln_9_80 : LnV 9 80 M_reader_append := ⟨gw_mem (p := 511) (by decide +kernel) (by decide +kernel), gw_mem (p := 512) (by decide +kernel) (by decide +kernel), gw_mem (p := 513) (by decide +kernel) (by decide +kernel)⟩
theorem ln_9_83 : LnV 9 83 M_x_granted := ⟨gw_mem (p := 519) (by decide +kernel) (by decide +kernel), gw_mem (p := 521) (by decide +kernel) (by decide +kernel), gw_mem (p := 0) (by decide +kernel) (by decide +kernel)⟩
theorem ln_9_87 : LnV 9 87 M_reader_read := ⟨gw_mem (p := 523) (by decide +kernel) (by decide +kernel), gw_mem (p := 524) (by decide +kernel) (by decide +kernel), gw_mem (p := 525) (by decide +kernel) (by decide +kernel)⟩
theorem ln_9_96 : LnV 9 96 M_state_begin := ⟨gw_mem (p := 744) (by decide +kernel) (by decide +kernel), gw_mem (p := 745) (by decide +kernel) (by decide +kernel), gw_mem (p := 746) (by decide +kernel) (by decide +kernel)⟩
theorem ln_1_124 : Cond.methodLink (kR 1) 124 Lib.Math.max.name ∈ gws := gw_mem (p := 1207) (by decide +kernel) (by decide +kernel)
theorem ln_2_31 : Cond.methodLink (kR 2) 31 Lib.Math.min.name ∈ gws := gw_mem (p := 1286) (by decide +kernel) (by decide +kernel)
theorem ln_5_79 : Cond.methodLink (kR 5) 79 Lib.Math.min.name ∈ gws := gw_mem (p := 531) (by decide +kernel) (by decide +kernel)
theorem ln_9_263 : Cond.methodLink (kR 9) 263 Lib.Math.abs.name ∈ gws := gw_mem (p := 1087) (by decide +kernel) (by decide +kernel)
theorem ln_9_402 : Cond.methodLink (kR 9) 402 Lib.Math.max.name ∈ gws := gw_mem (p := 659) (by decide +kernel) (by decide +kernel)
theorem ln_9_408 : Cond.methodLink (kR 9) 408 Lib.Math.min.name ∈ gws := gw_mem (p := 664) (by decide +kernel) (by decide +kernel)
