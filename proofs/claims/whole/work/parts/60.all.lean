/-! every method but P_spells: its rows fit (by wip/whole/mk_all.py) -/
def sm_fitY (y : Nat) : Prop := ∃ rs, rs.map (·.1) = sm_cd y ∧ sm_fit (sm_yn y).cls (sm_yb y) (sm_yl y) (sm_yr y) (decide ((sm_yn y).name = "<init>")) rs
theorem fy_0 : sm_fitY 0 := ⟨r_J_bitCount, rc_J_bitCount, by rw [show decide ((sm_yn 0).name = "<init>") = false from by decide +kernel]; exact rf_J_bitCount⟩
theorem fy_1 : sm_fitY 1 := ⟨r_J_numberOfTrailingZeros, rc_J_numberOfTrailingZeros, by rw [show decide ((sm_yn 1).name = "<init>") = false from by decide +kernel]; exact rf_J_numberOfTrailingZeros⟩
theorem fy_2 : sm_fitY 2 := ⟨r_J_fill, rc_J_fill, by rw [show decide ((sm_yn 2).name = "<init>") = false from by decide +kernel]; exact rf_J_fill⟩
theorem fy_3 : sm_fitY 3 := ⟨r_S_init, rc_S_init, by rw [show decide ((sm_yn 3).name = "<init>") = true from by decide +kernel]; exact rf_S_init⟩
theorem fy_4 : sm_fitY 4 := ⟨r_S_copyFrom, rc_S_copyFrom, by rw [show decide ((sm_yn 4).name = "<init>") = false from by decide +kernel]; exact rf_S_copyFrom⟩
theorem fy_5 : sm_fitY 5 := ⟨r_S_goBackTo, rc_S_goBackTo, by rw [show decide ((sm_yn 5).name = "<init>") = false from by decide +kernel]; exact rf_S_goBackTo⟩
theorem fy_6 : sm_fitY 6 := ⟨r_S_piecesIn, rc_S_piecesIn, by rw [show decide ((sm_yn 6).name = "<init>") = false from by decide +kernel]; exact rf_S_piecesIn⟩
theorem fy_7 : sm_fitY 7 := ⟨r_S_emptyRooms, rc_S_emptyRooms, by rw [show decide ((sm_yn 7).name = "<init>") = false from by decide +kernel]; exact rf_S_emptyRooms⟩
theorem fy_8 : sm_fitY 8 := ⟨r_S_neighbours, rc_S_neighbours, by rw [show decide ((sm_yn 8).name = "<init>") = false from by decide +kernel]; exact rf_S_neighbours⟩
theorem fy_9 : sm_fitY 9 := ⟨r_N_init, rc_N_init, by rw [show decide ((sm_yn 9).name = "<init>") = true from by decide +kernel]; exact rf_N_init⟩
theorem fy_10 : sm_fitY 10 := ⟨r_N_require, rc_N_require, by rw [show decide ((sm_yn 10).name = "<init>") = false from by decide +kernel]; exact rf_N_require⟩
theorem fy_11 : sm_fitY 11 := ⟨r_N_copyFrom, rc_N_copyFrom, by rw [show decide ((sm_yn 11).name = "<init>") = false from by decide +kernel]; exact rf_N_copyFrom⟩
theorem fy_12 : sm_fitY 12 := ⟨r_N_addChoice, rc_N_addChoice, by rw [show decide ((sm_yn 12).name = "<init>") = false from by decide +kernel]; exact rf_N_addChoice⟩
theorem fy_13 : sm_fitY 13 := ⟨r_N_addEvent, rc_N_addEvent, by rw [show decide ((sm_yn 13).name = "<init>") = false from by decide +kernel]; exact rf_N_addEvent⟩
theorem fy_14 : sm_fitY 14 := ⟨r_N_metBy, rc_N_metBy, by rw [show decide ((sm_yn 14).name = "<init>") = false from by decide +kernel]; exact rf_N_metBy⟩
theorem fy_15 : sm_fitY 15 := ⟨r_X_init, rc_X_init, by rw [show decide ((sm_yn 15).name = "<init>") = true from by decide +kernel]; exact rf_X_init⟩
theorem fy_16 : sm_fitY 16 := ⟨r_X_clear, rc_X_clear, by rw [show decide ((sm_yn 16).name = "<init>") = false from by decide +kernel]; exact rf_X_clear⟩
theorem fy_17 : sm_fitY 17 := ⟨r_X_addTerm, rc_X_addTerm, by rw [show decide ((sm_yn 17).name = "<init>") = false from by decide +kernel]; exact rf_X_addTerm⟩
theorem fy_18 : sm_fitY 18 := ⟨r_X_addClause, rc_X_addClause, by rw [show decide ((sm_yn 18).name = "<init>") = false from by decide +kernel]; exact rf_X_addClause⟩
theorem fy_19 : sm_fitY 19 := ⟨r_T_init, rc_T_init, by rw [show decide ((sm_yn 19).name = "<init>") = true from by decide +kernel]; exact rf_T_init⟩
theorem fy_20 : sm_fitY 20 := ⟨r_T_push, rc_T_push, by rw [show decide ((sm_yn 20).name = "<init>") = false from by decide +kernel]; exact rf_T_push⟩
theorem fy_21 : sm_fitY 21 := ⟨r_T_pop, rc_T_pop, by rw [show decide ((sm_yn 21).name = "<init>") = false from by decide +kernel]; exact rf_T_pop⟩
theorem fy_22 : sm_fitY 22 := ⟨r_T_copyFrom, rc_T_copyFrom, by rw [show decide ((sm_yn 22).name = "<init>") = false from by decide +kernel]; exact rf_T_copyFrom⟩
theorem fy_23 : sm_fitY 23 := ⟨r_U_init, rc_U_init, by rw [show decide ((sm_yn 23).name = "<init>") = true from by decide +kernel]; exact rf_U_init⟩
theorem fy_24 : sm_fitY 24 := ⟨r_U_copyFrom, rc_U_copyFrom, by rw [show decide ((sm_yn 24).name = "<init>") = false from by decide +kernel]; exact rf_U_copyFrom⟩
theorem fy_25 : sm_fitY 25 := ⟨r_U_wayCount, rc_U_wayCount, by rw [show decide ((sm_yn 25).name = "<init>") = false from by decide +kernel]; exact rf_U_wayCount⟩
theorem fy_26 : sm_fitY 26 := ⟨r_U_isWay, rc_U_isWay, by rw [show decide ((sm_yn 26).name = "<init>") = false from by decide +kernel]; exact rf_U_isWay⟩
theorem fy_27 : sm_fitY 27 := ⟨r_U_allPieces, rc_U_allPieces, by rw [show decide ((sm_yn 27).name = "<init>") = false from by decide +kernel]; exact rf_U_allPieces⟩
theorem fy_28 : sm_fitY 28 := ⟨r_U_isPieceSet, rc_U_isPieceSet, by rw [show decide ((sm_yn 28).name = "<init>") = false from by decide +kernel]; exact rf_U_isPieceSet⟩
theorem fy_29 : sm_fitY 29 := ⟨r_U_tellChoice, rc_U_tellChoice, by rw [show decide ((sm_yn 29).name = "<init>") = false from by decide +kernel]; exact rf_U_tellChoice⟩
theorem fy_30 : sm_fitY 30 := ⟨r_U_tellPiece, rc_U_tellPiece, by rw [show decide ((sm_yn 30).name = "<init>") = false from by decide +kernel]; exact rf_U_tellPiece⟩
theorem fy_31 : sm_fitY 31 := ⟨r_U_tellRoom, rc_U_tellRoom, by rw [show decide ((sm_yn 31).name = "<init>") = false from by decide +kernel]; exact rf_U_tellRoom⟩
theorem fy_32 : sm_fitY 32 := ⟨r_U_tellPerson, rc_U_tellPerson, by rw [show decide ((sm_yn 32).name = "<init>") = false from by decide +kernel]; exact rf_U_tellPerson⟩
theorem fy_33 : sm_fitY 33 := ⟨r_U_tellFact, rc_U_tellFact, by rw [show decide ((sm_yn 33).name = "<init>") = false from by decide +kernel]; exact rf_U_tellFact⟩
theorem fy_34 : sm_fitY 34 := ⟨r_U_turnChoice, rc_U_turnChoice, by rw [show decide ((sm_yn 34).name = "<init>") = false from by decide +kernel]; exact rf_U_turnChoice⟩
theorem fy_35 : sm_fitY 35 := ⟨r_U_setRoom, rc_U_setRoom, by rw [show decide ((sm_yn 35).name = "<init>") = false from by decide +kernel]; exact rf_U_setRoom⟩
theorem fy_36 : sm_fitY 36 := ⟨r_U_canPut, rc_U_canPut, by rw [show decide ((sm_yn 36).name = "<init>") = false from by decide +kernel]; exact rf_U_canPut⟩
theorem fy_37 : sm_fitY 37 := ⟨r_U_putPiece, rc_U_putPiece, by rw [show decide ((sm_yn 37).name = "<init>") = false from by decide +kernel]; exact rf_U_putPiece⟩
theorem fy_38 : sm_fitY 38 := ⟨r_U_takePiece, rc_U_takePiece, by rw [show decide ((sm_yn 38).name = "<init>") = false from by decide +kernel]; exact rf_U_takePiece⟩
theorem fy_39 : sm_fitY 39 := ⟨r_U_play, rc_U_play, by rw [show decide ((sm_yn 39).name = "<init>") = false from by decide +kernel]; exact rf_U_play⟩
theorem fy_40 : sm_fitY 40 := ⟨r_U_does, rc_U_does, by rw [show decide ((sm_yn 40).name = "<init>") = false from by decide +kernel]; exact rf_U_does⟩
theorem fy_41 : sm_fitY 41 := ⟨r_U_passYears, rc_U_passYears, by rw [show decide ((sm_yn 41).name = "<init>") = false from by decide +kernel]; exact rf_U_passYears⟩
theorem fy_42 : sm_fitY 42 := ⟨r_U_passYear, rc_U_passYear, by rw [show decide ((sm_yn 42).name = "<init>") = false from by decide +kernel]; exact rf_U_passYear⟩
theorem fy_43 : sm_fitY 43 := ⟨r_U_takeBack, rc_U_takeBack, by rw [show decide ((sm_yn 43).name = "<init>") = false from by decide +kernel]; exact rf_U_takeBack⟩
theorem fy_44 : sm_fitY 44 := ⟨r_U_eldersOf, rc_U_eldersOf, by rw [show decide ((sm_yn 44).name = "<init>") = false from by decide +kernel]; exact rf_U_eldersOf⟩
theorem fy_45 : sm_fitY 45 := ⟨r_U_isCalled, rc_U_isCalled, by rw [show decide ((sm_yn 45).name = "<init>") = false from by decide +kernel]; exact rf_U_isCalled⟩
theorem fy_46 : sm_fitY 46 := ⟨r_U_isThere, rc_U_isThere, by rw [show decide ((sm_yn 46).name = "<init>") = false from by decide +kernel]; exact rf_U_isThere⟩
theorem fy_47 : sm_fitY 47 := ⟨r_U_peopleThere, rc_U_peopleThere, by rw [show decide ((sm_yn 47).name = "<init>") = false from by decide +kernel]; exact rf_U_peopleThere⟩
theorem fy_48 : sm_fitY 48 := ⟨r_P_init, rc_P_init, by rw [show decide ((sm_yn 48).name = "<init>") = true from by decide +kernel]; exact rf_P_init⟩
theorem fy_49 : sm_fitY 49 := ⟨r_P_hasSpace, rc_P_hasSpace, by rw [show decide ((sm_yn 49).name = "<init>") = false from by decide +kernel]; exact rf_P_hasSpace⟩
theorem fy_50 : sm_fitY 50 := ⟨r_P_append, rc_P_append, by rw [show decide ((sm_yn 50).name = "<init>") = false from by decide +kernel]; exact rf_P_append⟩
theorem fy_51 : sm_fitY 51 := ⟨r_P_cut, rc_P_cut, by rw [show decide ((sm_yn 51).name = "<init>") = false from by decide +kernel]; exact rf_P_cut⟩
theorem fy_52 : sm_fitY 52 := ⟨r_P_scan, rc_P_scan, by rw [show decide ((sm_yn 52).name = "<init>") = false from by decide +kernel]; exact rf_P_scan⟩
theorem fy_53 : sm_fitY 53 := ⟨r_P_goesOn, rc_P_goesOn, by rw [show decide ((sm_yn 53).name = "<init>") = false from by decide +kernel]; exact rf_P_goesOn⟩
theorem fy_54 : sm_fitY 54 := ⟨r_P_scanToken, rc_P_scanToken, by rw [show decide ((sm_yn 54).name = "<init>") = false from by decide +kernel]; exact rf_P_scanToken⟩
theorem fy_55 : sm_fitY 55 := ⟨r_P_isLetter, rc_P_isLetter, by rw [show decide ((sm_yn 55).name = "<init>") = false from by decide +kernel]; exact rf_P_isLetter⟩
theorem fy_56 : sm_fitY 56 := ⟨r_P_isDigit, rc_P_isDigit, by rw [show decide ((sm_yn 56).name = "<init>") = false from by decide +kernel]; exact rf_P_isDigit⟩
theorem fy_57 : sm_fitY 57 := ⟨r_P_number, rc_P_number, by rw [show decide ((sm_yn 57).name = "<init>") = false from by decide +kernel]; exact rf_P_number⟩
theorem fy_58 : sm_fitY 58 := ⟨r_P_sign, rc_P_sign, by rw [show decide ((sm_yn 58).name = "<init>") = false from by decide +kernel]; exact rf_P_sign⟩
theorem fy_60 : sm_fitY 60 := ⟨r_P_word, rc_P_word, by rw [show decide ((sm_yn 60).name = "<init>") = false from by decide +kernel]; exact rf_P_word⟩
theorem fy_61 : sm_fitY 61 := ⟨r_R_init, rc_R_init, by rw [show decide ((sm_yn 61).name = "<init>") = true from by decide +kernel]; exact rf_R_init⟩
theorem fy_62 : sm_fitY 62 := ⟨r_R_read, rc_R_read, by rw [show decide ((sm_yn 62).name = "<init>") = false from by decide +kernel]; exact rf_R_read⟩
theorem fy_63 : sm_fitY 63 := ⟨r_R_kind, rc_R_kind, by rw [show decide ((sm_yn 63).name = "<init>") = false from by decide +kernel]; exact rf_R_kind⟩
theorem fy_64 : sm_fitY 64 := ⟨r_R_goOn, rc_R_goOn, by rw [show decide ((sm_yn 64).name = "<init>") = false from by decide +kernel]; exact rf_R_goOn⟩
theorem fy_65 : sm_fitY 65 := ⟨r_R_refuse, rc_R_refuse, by rw [show decide ((sm_yn 65).name = "<init>") = false from by decide +kernel]; exact rf_R_refuse⟩
theorem fy_66 : sm_fitY 66 := ⟨r_R_expect, rc_R_expect, by rw [show decide ((sm_yn 66).name = "<init>") = false from by decide +kernel]; exact rf_R_expect⟩
theorem fy_67 : sm_fitY 67 := ⟨r_R_readNumber, rc_R_readNumber, by rw [show decide ((sm_yn 67).name = "<init>") = false from by decide +kernel]; exact rf_R_readNumber⟩
theorem fy_68 : sm_fitY 68 := ⟨r_R_readClause, rc_R_readClause, by rw [show decide ((sm_yn 68).name = "<init>") = false from by decide +kernel]; exact rf_R_readClause⟩
theorem fy_69 : sm_fitY 69 := ⟨r_R_isDeed, rc_R_isDeed, by rw [show decide ((sm_yn 69).name = "<init>") = false from by decide +kernel]; exact rf_R_isDeed⟩
theorem fy_70 : sm_fitY 70 := ⟨r_R_readDeed, rc_R_readDeed, by rw [show decide ((sm_yn 70).name = "<init>") = false from by decide +kernel]; exact rf_R_readDeed⟩
theorem fy_71 : sm_fitY 71 := ⟨r_R_readPair, rc_R_readPair, by rw [show decide ((sm_yn 71).name = "<init>") = false from by decide +kernel]; exact rf_R_readPair⟩
theorem fy_72 : sm_fitY 72 := ⟨r_R_readWhole, rc_R_readWhole, by rw [show decide ((sm_yn 72).name = "<init>") = false from by decide +kernel]; exact rf_R_readWhole⟩
theorem fy_73 : sm_fitY 73 := ⟨r_R_readEither, rc_R_readEither, by rw [show decide ((sm_yn 73).name = "<init>") = false from by decide +kernel]; exact rf_R_readEither⟩
theorem fy_74 : sm_fitY 74 := ⟨r_R_readBoth, rc_R_readBoth, by rw [show decide ((sm_yn 74).name = "<init>") = false from by decide +kernel]; exact rf_R_readBoth⟩
theorem fy_75 : sm_fitY 75 := ⟨r_R_readAsk, rc_R_readAsk, by rw [show decide ((sm_yn 75).name = "<init>") = false from by decide +kernel]; exact rf_R_readAsk⟩
theorem fy_76 : sm_fitY 76 := ⟨r_R_opens, rc_R_opens, by rw [show decide ((sm_yn 76).name = "<init>") = false from by decide +kernel]; exact rf_R_opens⟩
theorem fy_77 : sm_fitY 77 := ⟨r_R_readCame, rc_R_readCame, by rw [show decide ((sm_yn 77).name = "<init>") = false from by decide +kernel]; exact rf_R_readCame⟩
theorem fy_78 : sm_fitY 78 := ⟨r_R_readCompared, rc_R_readCompared, by rw [show decide ((sm_yn 78).name = "<init>") = false from by decide +kernel]; exact rf_R_readCompared⟩
theorem fy_79 : sm_fitY 79 := ⟨r_R_readSum, rc_R_readSum, by rw [show decide ((sm_yn 79).name = "<init>") = false from by decide +kernel]; exact rf_R_readSum⟩
theorem fy_80 : sm_fitY 80 := ⟨r_R_readProduct, rc_R_readProduct, by rw [show decide ((sm_yn 80).name = "<init>") = false from by decide +kernel]; exact rf_R_readProduct⟩
theorem fy_81 : sm_fitY 81 := ⟨r_R_readOne, rc_R_readOne, by rw [show decide ((sm_yn 81).name = "<init>") = false from by decide +kernel]; exact rf_R_readOne⟩
theorem fy_82 : sm_fitY 82 := ⟨r_R_readCounted, rc_R_readCounted, by rw [show decide ((sm_yn 82).name = "<init>") = false from by decide +kernel]; exact rf_R_readCounted⟩
theorem fy_83 : sm_fitY 83 := ⟨r_L_init, rc_L_init, by rw [show decide ((sm_yn 83).name = "<init>") = true from by decide +kernel]; exact rf_L_init⟩
theorem fy_84 : sm_fitY 84 := ⟨r_L_events, rc_L_events, by rw [show decide ((sm_yn 84).name = "<init>") = false from by decide +kernel]; exact rf_L_events⟩
theorem fy_85 : sm_fitY 85 := ⟨r_L_eventsBy, rc_L_eventsBy, by rw [show decide ((sm_yn 85).name = "<init>") = false from by decide +kernel]; exact rf_L_eventsBy⟩
theorem fy_86 : sm_fitY 86 := ⟨r_L_allows, rc_L_allows, by rw [show decide ((sm_yn 86).name = "<init>") = false from by decide +kernel]; exact rf_L_allows⟩
theorem fy_87 : sm_fitY 87 := ⟨r_L_leaves, rc_L_leaves, by rw [show decide ((sm_yn 87).name = "<init>") = false from by decide +kernel]; exact rf_L_leaves⟩
theorem fy_88 : sm_fitY 88 := ⟨r_L_eventsTold, rc_L_eventsTold, by rw [show decide ((sm_yn 88).name = "<init>") = false from by decide +kernel]; exact rf_L_eventsTold⟩
theorem fy_89 : sm_fitY 89 := ⟨r_L_waysAlike, rc_L_waysAlike, by rw [show decide ((sm_yn 89).name = "<init>") = false from by decide +kernel]; exact rf_L_waysAlike⟩
theorem fy_90 : sm_fitY 90 := ⟨r_L_waysUnlike, rc_L_waysUnlike, by rw [show decide ((sm_yn 90).name = "<init>") = false from by decide +kernel]; exact rf_L_waysUnlike⟩
theorem fy_91 : sm_fitY 91 := ⟨r_L_keepUp, rc_L_keepUp, by rw [show decide ((sm_yn 91).name = "<init>") = false from by decide +kernel]; exact rf_L_keepUp⟩
theorem fy_92 : sm_fitY 92 := ⟨r_L_outcome, rc_L_outcome, by rw [show decide ((sm_yn 92).name = "<init>") = false from by decide +kernel]; exact rf_L_outcome⟩
theorem fy_93 : sm_fitY 93 := ⟨r_L_workOut, rc_L_workOut, by rw [show decide ((sm_yn 93).name = "<init>") = false from by decide +kernel]; exact rf_L_workOut⟩
theorem fy_94 : sm_fitY 94 := ⟨r_L_asked, rc_L_asked, by rw [show decide ((sm_yn 94).name = "<init>") = false from by decide +kernel]; exact rf_L_asked⟩
theorem fy_95 : sm_fitY 95 := ⟨r_L_push, rc_L_push, by rw [show decide ((sm_yn 95).name = "<init>") = false from by decide +kernel]; exact rf_L_push⟩
theorem fy_96 : sm_fitY 96 := ⟨r_L_pop, rc_L_pop, by rw [show decide ((sm_yn 96).name = "<init>") = false from by decide +kernel]; exact rf_L_pop⟩
theorem fy_97 : sm_fitY 97 := ⟨r_L_work, rc_L_work, by rw [show decide ((sm_yn 97).name = "<init>") = false from by decide +kernel]; exact rf_L_work⟩
theorem fy_98 : sm_fitY 98 := ⟨r_L_countSo, rc_L_countSo, by rw [show decide ((sm_yn 98).name = "<init>") = false from by decide +kernel]; exact rf_L_countSo⟩
theorem fy_99 : sm_fitY 99 := ⟨r_L_join, rc_L_join, by rw [show decide ((sm_yn 99).name = "<init>") = false from by decide +kernel]; exact rf_L_join⟩
theorem fy_100 : sm_fitY 100 := ⟨r_L_reckoned, rc_L_reckoned, by rw [show decide ((sm_yn 100).name = "<init>") = false from by decide +kernel]; exact rf_L_reckoned⟩
theorem fy_101 : sm_fitY 101 := ⟨r_G_init, rc_G_init, by rw [show decide ((sm_yn 101).name = "<init>") = true from by decide +kernel]; exact rf_G_init⟩
theorem fy_102 : sm_fitY 102 := ⟨r_G_howMany, rc_G_howMany, by rw [show decide ((sm_yn 102).name = "<init>") = false from by decide +kernel]; exact rf_G_howMany⟩
theorem fy_103 : sm_fitY 103 := ⟨r_G_wayAt, rc_G_wayAt, by rw [show decide ((sm_yn 103).name = "<init>") = false from by decide +kernel]; exact rf_G_wayAt⟩
theorem fy_104 : sm_fitY 104 := ⟨r_G_choicesAlike, rc_G_choicesAlike, by rw [show decide ((sm_yn 104).name = "<init>") = false from by decide +kernel]; exact rf_G_choicesAlike⟩
theorem fy_105 : sm_fitY 105 := ⟨r_G_eventsAlike, rc_G_eventsAlike, by rw [show decide ((sm_yn 105).name = "<init>") = false from by decide +kernel]; exact rf_G_eventsAlike⟩
theorem fy_106 : sm_fitY 106 := ⟨r_G_waysWith, rc_G_waysWith, by rw [show decide ((sm_yn 106).name = "<init>") = false from by decide +kernel]; exact rf_G_waysWith⟩
theorem fy_107 : sm_fitY 107 := ⟨r_G_nearestHalf, rc_G_nearestHalf, by rw [show decide ((sm_yn 107).name = "<init>") = false from by decide +kernel]; exact rf_G_nearestHalf⟩
theorem fy_108 : sm_fitY 108 := ⟨r_G_onesLeft, rc_G_onesLeft, by rw [show decide ((sm_yn 108).name = "<init>") = false from by decide +kernel]; exact rf_G_onesLeft⟩
theorem fy_109 : sm_fitY 109 := ⟨r_G_fewestToAsk, rc_G_fewestToAsk, by rw [show decide ((sm_yn 109).name = "<init>") = false from by decide +kernel]; exact rf_G_fewestToAsk⟩
theorem fy_110 : sm_fitY 110 := ⟨r_G_markApart, rc_G_markApart, by rw [show decide ((sm_yn 110).name = "<init>") = false from by decide +kernel]; exact rf_G_markApart⟩
theorem fy_111 : sm_fitY 111 := ⟨r_G_spread, rc_G_spread, by rw [show decide ((sm_yn 111).name = "<init>") = false from by decide +kernel]; exact rf_G_spread⟩
theorem fy_112 : sm_fitY 112 := ⟨r_H_init, rc_H_init, by rw [show decide ((sm_yn 112).name = "<init>") = true from by decide +kernel]; exact rf_H_init⟩
theorem fy_113 : sm_fitY 113 := ⟨r_H_fewestTurned, rc_H_fewestTurned, by rw [show decide ((sm_yn 113).name = "<init>") = false from by decide +kernel]; exact rf_H_fewestTurned⟩
theorem fy_114 : sm_fitY 114 := ⟨r_H_waysTurned, rc_H_waysTurned, by rw [show decide ((sm_yn 114).name = "<init>") = false from by decide +kernel]; exact rf_H_waysTurned⟩
theorem fy_115 : sm_fitY 115 := ⟨r_H_changedBy, rc_H_changedBy, by rw [show decide ((sm_yn 115).name = "<init>") = false from by decide +kernel]; exact rf_H_changedBy⟩
theorem fy_116 : sm_fitY 116 := ⟨r_H_idleFor, rc_H_idleFor, by rw [show decide ((sm_yn 116).name = "<init>") = false from by decide +kernel]; exact rf_H_idleFor⟩
theorem fy_117 : sm_fitY 117 := ⟨r_H_measure, rc_H_measure, by rw [show decide ((sm_yn 117).name = "<init>") = false from by decide +kernel]; exact rf_H_measure⟩
theorem fy_118 : sm_fitY 118 := ⟨r_H_doorsFrom, rc_H_doorsFrom, by rw [show decide ((sm_yn 118).name = "<init>") = false from by decide +kernel]; exact rf_H_doorsFrom⟩
theorem fy_119 : sm_fitY 119 := ⟨r_H_doorAt, rc_H_doorAt, by rw [show decide ((sm_yn 119).name = "<init>") = false from by decide +kernel]; exact rf_H_doorAt⟩
theorem fy_120 : sm_fitY 120 := ⟨r_H_nextChoice, rc_H_nextChoice, by rw [show decide ((sm_yn 120).name = "<init>") = false from by decide +kernel]; exact rf_H_nextChoice⟩
theorem fy_121 : sm_fitY 121 := ⟨r_H_weight, rc_H_weight, by rw [show decide ((sm_yn 121).name = "<init>") = false from by decide +kernel]; exact rf_H_weight⟩
theorem fy_122 : sm_fitY 122 := ⟨r_H_wholeWeight, rc_H_wholeWeight, by rw [show decide ((sm_yn 122).name = "<init>") = false from by decide +kernel]; exact rf_H_wholeWeight⟩
theorem fy_123 : sm_fitY 123 := ⟨r_H_weightWith, rc_H_weightWith, by rw [show decide ((sm_yn 123).name = "<init>") = false from by decide +kernel]; exact rf_H_weightWith⟩
theorem fy_124 : sm_fitY 124 := ⟨r_H_likeliestOther, rc_H_likeliestOther, by rw [show decide ((sm_yn 124).name = "<init>") = false from by decide +kernel]; exact rf_H_likeliestOther⟩
theorem fy_125 : sm_fitY 125 := ⟨r_K_init, rc_K_init, by rw [show decide ((sm_yn 125).name = "<init>") = true from by decide +kernel]; exact rf_K_init⟩
theorem fy_126 : sm_fitY 126 := ⟨r_K_fits, rc_K_fits, by rw [show decide ((sm_yn 126).name = "<init>") = false from by decide +kernel]; exact rf_K_fits⟩
theorem fy_127 : sm_fitY 127 := ⟨r_K_fitting, rc_K_fitting, by rw [show decide ((sm_yn 127).name = "<init>") = false from by decide +kernel]; exact rf_K_fitting⟩
theorem fy_128 : sm_fitY 128 := ⟨r_K_misplaced, rc_K_misplaced, by rw [show decide ((sm_yn 128).name = "<init>") = false from by decide +kernel]; exact rf_K_misplaced⟩
theorem fy_129 : sm_fitY 129 := ⟨r_K_waysFor, rc_K_waysFor, by rw [show decide ((sm_yn 129).name = "<init>") = false from by decide +kernel]; exact rf_K_waysFor⟩
theorem fy_130 : sm_fitY 130 := ⟨r_K_bestWay, rc_K_bestWay, by rw [show decide ((sm_yn 130).name = "<init>") = false from by decide +kernel]; exact rf_K_bestWay⟩
theorem fy_131 : sm_fitY 131 := ⟨r_K_fewestAtOdds, rc_K_fewestAtOdds, by rw [show decide ((sm_yn 131).name = "<init>") = false from by decide +kernel]; exact rf_K_fewestAtOdds⟩
theorem fy_132 : sm_fitY 132 := ⟨r_K_markTogether, rc_K_markTogether, by rw [show decide ((sm_yn 132).name = "<init>") = false from by decide +kernel]; exact rf_K_markTogether⟩
theorem fy_133 : sm_fitY 133 := ⟨r_K_mostLaid, rc_K_mostLaid, by rw [show decide ((sm_yn 133).name = "<init>") = false from by decide +kernel]; exact rf_K_mostLaid⟩
theorem fy_134 : sm_fitY 134 := ⟨r_K_roomLaid, rc_K_roomLaid, by rw [show decide ((sm_yn 134).name = "<init>") = false from by decide +kernel]; exact rf_K_roomLaid⟩
theorem fy_135 : sm_fitY 135 := ⟨r_K_openRooms, rc_K_openRooms, by rw [show decide ((sm_yn 135).name = "<init>") = false from by decide +kernel]; exact rf_K_openRooms⟩
theorem fy_136 : sm_fitY 136 := ⟨r_K_lowestRoom, rc_K_lowestRoom, by rw [show decide ((sm_yn 136).name = "<init>") = false from by decide +kernel]; exact rf_K_lowestRoom⟩
theorem fy_137 : sm_fitY 137 := ⟨r_K_mostInto, rc_K_mostInto, by rw [show decide ((sm_yn 137).name = "<init>") = false from by decide +kernel]; exact rf_K_mostInto⟩
theorem fy_138 : sm_fitY 138 := ⟨r_K_spaceIn, rc_K_spaceIn, by rw [show decide ((sm_yn 138).name = "<init>") = false from by decide +kernel]; exact rf_K_spaceIn⟩
theorem fy_139 : sm_fitY 139 := ⟨r_K_fitOutside, rc_K_fitOutside, by rw [show decide ((sm_yn 139).name = "<init>") = false from by decide +kernel]; exact rf_K_fitOutside⟩
theorem fy_140 : sm_fitY 140 := ⟨r_W_init, rc_W_init, by rw [show decide ((sm_yn 140).name = "<init>") = true from by decide +kernel]; exact rf_W_init⟩
theorem fy_141 : sm_fitY 141 := ⟨r_W_choice, rc_W_choice, by rw [show decide ((sm_yn 141).name = "<init>") = false from by decide +kernel]; exact rf_W_choice⟩
theorem fy_142 : sm_fitY 142 := ⟨r_W_piece, rc_W_piece, by rw [show decide ((sm_yn 142).name = "<init>") = false from by decide +kernel]; exact rf_W_piece⟩
theorem fy_143 : sm_fitY 143 := ⟨r_W_room, rc_W_room, by rw [show decide ((sm_yn 143).name = "<init>") = false from by decide +kernel]; exact rf_W_room⟩
theorem fy_144 : sm_fitY 144 := ⟨r_W_person, rc_W_person, by rw [show decide ((sm_yn 144).name = "<init>") = false from by decide +kernel]; exact rf_W_person⟩
theorem fy_145 : sm_fitY 145 := ⟨r_W_feed, rc_W_feed, by rw [show decide ((sm_yn 145).name = "<init>") = false from by decide +kernel]; exact rf_W_feed⟩
theorem fy_146 : sm_fitY 146 := ⟨r_W_end, rc_W_end, by rw [show decide ((sm_yn 146).name = "<init>") = false from by decide +kernel]; exact rf_W_end⟩
theorem fy_147 : sm_fitY 147 := ⟨r_W_text, rc_W_text, by rw [show decide ((sm_yn 147).name = "<init>") = false from by decide +kernel]; exact rf_W_text⟩
theorem fy_148 : sm_fitY 148 := ⟨r_W_fault, rc_W_fault, by rw [show decide ((sm_yn 148).name = "<init>") = false from by decide +kernel]; exact rf_W_fault⟩
theorem fy_149 : sm_fitY 149 := ⟨r_W_by, rc_W_by, by rw [show decide ((sm_yn 149).name = "<init>") = false from by decide +kernel]; exact rf_W_by⟩
theorem fy_150 : sm_fitY 150 := ⟨r_W_turn, rc_W_turn, by rw [show decide ((sm_yn 150).name = "<init>") = false from by decide +kernel]; exact rf_W_turn⟩
theorem fy_151 : sm_fitY 151 := ⟨r_W_set, rc_W_set, by rw [show decide ((sm_yn 151).name = "<init>") = false from by decide +kernel]; exact rf_W_set⟩
theorem fy_152 : sm_fitY 152 := ⟨r_W_put, rc_W_put, by rw [show decide ((sm_yn 152).name = "<init>") = false from by decide +kernel]; exact rf_W_put⟩
theorem fy_153 : sm_fitY 153 := ⟨r_W_take, rc_W_take, by rw [show decide ((sm_yn 153).name = "<init>") = false from by decide +kernel]; exact rf_W_take⟩
theorem fy_154 : sm_fitY 154 := ⟨r_W_played, rc_W_played, by rw [show decide ((sm_yn 154).name = "<init>") = false from by decide +kernel]; exact rf_W_played⟩
theorem fy_155 : sm_fitY 155 := ⟨r_W_years, rc_W_years, by rw [show decide ((sm_yn 155).name = "<init>") = false from by decide +kernel]; exact rf_W_years⟩
theorem fy_156 : sm_fitY 156 := ⟨r_W_undo, rc_W_undo, by rw [show decide ((sm_yn 156).name = "<init>") = false from by decide +kernel]; exact rf_W_undo⟩
theorem fy_157 : sm_fitY 157 := ⟨r_W_ofChoice, rc_W_ofChoice, by rw [show decide ((sm_yn 157).name = "<init>") = false from by decide +kernel]; exact rf_W_ofChoice⟩
theorem fy_158 : sm_fitY 158 := ⟨r_W_ofPiece, rc_W_ofPiece, by rw [show decide ((sm_yn 158).name = "<init>") = false from by decide +kernel]; exact rf_W_ofPiece⟩
theorem fy_159 : sm_fitY 159 := ⟨r_W_ofRoom, rc_W_ofRoom, by rw [show decide ((sm_yn 159).name = "<init>") = false from by decide +kernel]; exact rf_W_ofRoom⟩
theorem fy_160 : sm_fitY 160 := ⟨r_W_was, rc_W_was, by rw [show decide ((sm_yn 160).name = "<init>") = false from by decide +kernel]; exact rf_W_was⟩
theorem fy_161 : sm_fitY 161 := ⟨r_W_agrees, rc_W_agrees, by rw [show decide ((sm_yn 161).name = "<init>") = false from by decide +kernel]; exact rf_W_agrees⟩
theorem fy_162 : sm_fitY 162 := ⟨r_W_follows, rc_W_follows, by rw [show decide ((sm_yn 162).name = "<init>") = false from by decide +kernel]; exact rf_W_follows⟩
theorem fy_163 : sm_fitY 163 := ⟨r_W_mayBe, rc_W_mayBe, by rw [show decide ((sm_yn 163).name = "<init>") = false from by decide +kernel]; exact rf_W_mayBe⟩
theorem fy_164 : sm_fitY 164 := ⟨r_W_cannot, rc_W_cannot, by rw [show decide ((sm_yn 164).name = "<init>") = false from by decide +kernel]; exact rf_W_cannot⟩
theorem fy_165 : sm_fitY 165 := ⟨r_W_most, rc_W_most, by rw [show decide ((sm_yn 165).name = "<init>") = false from by decide +kernel]; exact rf_W_most⟩
theorem fy_166 : sm_fitY 166 := ⟨r_W_clash, rc_W_clash, by rw [show decide ((sm_yn 166).name = "<init>") = false from by decide +kernel]; exact rf_W_clash⟩
theorem fy_167 : sm_fitY 167 := ⟨r_W_fact, rc_W_fact, by rw [show decide ((sm_yn 167).name = "<init>") = false from by decide +kernel]; exact rf_W_fact⟩
theorem fy_168 : sm_fitY 168 := ⟨r_W_left, rc_W_left, by rw [show decide ((sm_yn 168).name = "<init>") = false from by decide +kernel]; exact rf_W_left⟩
theorem fy_169 : sm_fitY 169 := ⟨r_W_sure, rc_W_sure, by rw [show decide ((sm_yn 169).name = "<init>") = false from by decide +kernel]; exact rf_W_sure⟩
theorem fy_170 : sm_fitY 170 := ⟨r_W_ask, rc_W_ask, by rw [show decide ((sm_yn 170).name = "<init>") = false from by decide +kernel]; exact rf_W_ask⟩
theorem fy_171 : sm_fitY 171 := ⟨r_W_halves, rc_W_halves, by rw [show decide ((sm_yn 171).name = "<init>") = false from by decide +kernel]; exact rf_W_halves⟩
theorem fy_172 : sm_fitY 172 := ⟨r_W_leanOn, rc_W_leanOn, by rw [show decide ((sm_yn 172).name = "<init>") = false from by decide +kernel]; exact rf_W_leanOn⟩
theorem fy_173 : sm_fitY 173 := ⟨r_W_agreeIn, rc_W_agreeIn, by rw [show decide ((sm_yn 173).name = "<init>") = false from by decide +kernel]; exact rf_W_agreeIn⟩
theorem fy_174 : sm_fitY 174 := ⟨r_W_elders, rc_W_elders, by rw [show decide ((sm_yn 174).name = "<init>") = false from by decide +kernel]; exact rf_W_elders⟩
theorem fy_175 : sm_fitY 175 := ⟨r_W_nextDoor, rc_W_nextDoor, by rw [show decide ((sm_yn 175).name = "<init>") = false from by decide +kernel]; exact rf_W_nextDoor⟩
theorem fy_176 : sm_fitY 176 := ⟨r_W_empty, rc_W_empty, by rw [show decide ((sm_yn 176).name = "<init>") = false from by decide +kernel]; exact rf_W_empty⟩
theorem fy_177 : sm_fitY 177 := ⟨r_W_least, rc_W_least, by rw [show decide ((sm_yn 177).name = "<init>") = false from by decide +kernel]; exact rf_W_least⟩
theorem fy_178 : sm_fitY 178 := ⟨r_W_noMatter, rc_W_noMatter, by rw [show decide ((sm_yn 178).name = "<init>") = false from by decide +kernel]; exact rf_W_noMatter⟩
theorem fy_179 : sm_fitY 179 := ⟨r_W_turnsIt, rc_W_turnsIt, by rw [show decide ((sm_yn 179).name = "<init>") = false from by decide +kernel]; exact rf_W_turnsIt⟩
theorem fy_180 : sm_fitY 180 := ⟨r_W_there, rc_W_there, by rw [show decide ((sm_yn 180).name = "<init>") = false from by decide +kernel]; exact rf_W_there⟩
theorem fy_181 : sm_fitY 181 := ⟨r_W_thereIn, rc_W_thereIn, by rw [show decide ((sm_yn 181).name = "<init>") = false from by decide +kernel]; exact rf_W_thereIn⟩
theorem fy_182 : sm_fitY 182 := ⟨r_W_lookedFor, rc_W_lookedFor, by rw [show decide ((sm_yn 182).name = "<init>") = false from by decide +kernel]; exact rf_W_lookedFor⟩
theorem fy_183 : sm_fitY 183 := ⟨r_W_walk, rc_W_walk, by rw [show decide ((sm_yn 183).name = "<init>") = false from by decide +kernel]; exact rf_W_walk⟩
theorem fy_184 : sm_fitY 184 := ⟨r_W_differ, rc_W_differ, by rw [show decide ((sm_yn 184).name = "<init>") = false from by decide +kernel]; exact rf_W_differ⟩
theorem fy_185 : sm_fitY 185 := ⟨r_W_unlike, rc_W_unlike, by rw [show decide ((sm_yn 185).name = "<init>") = false from by decide +kernel]; exact rf_W_unlike⟩
theorem fy_186 : sm_fitY 186 := ⟨r_W_gifts, rc_W_gifts, by rw [show decide ((sm_yn 186).name = "<init>") = false from by decide +kernel]; exact rf_W_gifts⟩
theorem fy_187 : sm_fitY 187 := ⟨r_W_chance, rc_W_chance, by rw [show decide ((sm_yn 187).name = "<init>") = false from by decide +kernel]; exact rf_W_chance⟩
theorem fy_188 : sm_fitY 188 := ⟨r_W_chanceOf, rc_W_chanceOf, by rw [show decide ((sm_yn 188).name = "<init>") = false from by decide +kernel]; exact rf_W_chanceOf⟩
theorem fy_189 : sm_fitY 189 := ⟨r_W_nearly, rc_W_nearly, by rw [show decide ((sm_yn 189).name = "<init>") = false from by decide +kernel]; exact rf_W_nearly⟩
theorem fy_190 : sm_fitY 190 := ⟨r_W_laidOut, rc_W_laidOut, by rw [show decide ((sm_yn 190).name = "<init>") = false from by decide +kernel]; exact rf_W_laidOut⟩
theorem fy_191 : sm_fitY 191 := ⟨r_W_alike, rc_W_alike, by rw [show decide ((sm_yn 191).name = "<init>") = false from by decide +kernel]; exact rf_W_alike⟩
theorem fy_192 : sm_fitY 192 := ⟨r_W_image, rc_W_image, by rw [show decide ((sm_yn 192).name = "<init>") = false from by decide +kernel]; exact rf_W_image⟩
theorem fy_193 : sm_fitY 193 := ⟨r_W_back, rc_W_back, by rw [show decide ((sm_yn 193).name = "<init>") = false from by decide +kernel]; exact rf_W_back⟩
theorem fy_194 : sm_fitY 194 := ⟨r_W_about, rc_W_about, by rw [show decide ((sm_yn 194).name = "<init>") = false from by decide +kernel]; exact rf_W_about⟩
theorem fy_195 : sm_fitY 195 := ⟨r_W_isOneOf, rc_W_isOneOf, by rw [show decide ((sm_yn 195).name = "<init>") = false from by decide +kernel]; exact rf_W_isOneOf⟩
theorem fy_196 : sm_fitY 196 := ⟨r_W_lowestOf, rc_W_lowestOf, by rw [show decide ((sm_yn 196).name = "<init>") = false from by decide +kernel]; exact rf_W_lowestOf⟩
theorem fy_197 : sm_fitY 197 := ⟨r_W_fewer, rc_W_fewer, by rw [show decide ((sm_yn 197).name = "<init>") = false from by decide +kernel]; exact rf_W_fewer⟩
theorem fy_198 : sm_fitY 198 := ⟨r_W_inLowestTerms, rc_W_inLowestTerms, by rw [show decide ((sm_yn 198).name = "<init>") = false from by decide +kernel]; exact rf_W_inLowestTerms⟩
theorem fy_199 : sm_fitY 199 := ⟨r_M_init, rc_M_init, by rw [show decide ((sm_yn 199).name = "<init>") = true from by decide +kernel]; exact rf_M_init⟩
theorem fy_200 : sm_fitY 200 := ⟨r_M_copy, rc_M_copy, by rw [show decide ((sm_yn 200).name = "<init>") = false from by decide +kernel]; exact rf_M_copy⟩
theorem fy_201 : sm_fitY 201 := ⟨r_M_isIn, rc_M_isIn, by rw [show decide ((sm_yn 201).name = "<init>") = false from by decide +kernel]; exact rf_M_isIn⟩
theorem fy_202 : sm_fitY 202 := ⟨r_M_has, rc_M_has, by rw [show decide ((sm_yn 202).name = "<init>") = false from by decide +kernel]; exact rf_M_has⟩
theorem fy_203 : sm_fitY 203 := ⟨r_M_bits, rc_M_bits, by rw [show decide ((sm_yn 203).name = "<init>") = false from by decide +kernel]; exact rf_M_bits⟩
theorem fy_204 : sm_fitY 204 := ⟨r_M_ways, rc_M_ways, by rw [show decide ((sm_yn 204).name = "<init>") = false from by decide +kernel]; exact rf_M_ways⟩
theorem fy_205 : sm_fitY 205 := ⟨r_M_isWay, rc_M_isWay, by rw [show decide ((sm_yn 205).name = "<init>") = false from by decide +kernel]; exact rf_M_isWay⟩
theorem fy_206 : sm_fitY 206 := ⟨r_M_isChoice, rc_M_isChoice, by rw [show decide ((sm_yn 206).name = "<init>") = false from by decide +kernel]; exact rf_M_isChoice⟩
theorem fy_207 : sm_fitY 207 := ⟨r_M_isPiece, rc_M_isPiece, by rw [show decide ((sm_yn 207).name = "<init>") = false from by decide +kernel]; exact rf_M_isPiece⟩
theorem fy_208 : sm_fitY 208 := ⟨r_M_isRoom, rc_M_isRoom, by rw [show decide ((sm_yn 208).name = "<init>") = false from by decide +kernel]; exact rf_M_isRoom⟩
theorem fy_209 : sm_fitY 209 := ⟨r_M_isPerson, rc_M_isPerson, by rw [show decide ((sm_yn 209).name = "<init>") = false from by decide +kernel]; exact rf_M_isPerson⟩
theorem fy_210 : sm_fitY 210 := ⟨r_M_isEvent, rc_M_isEvent, by rw [show decide ((sm_yn 210).name = "<init>") = false from by decide +kernel]; exact rf_M_isEvent⟩
theorem fy_211 : sm_fitY 211 := ⟨r_M_arePieces, rc_M_arePieces, by rw [show decide ((sm_yn 211).name = "<init>") = false from by decide +kernel]; exact rf_M_arePieces⟩
theorem fy_212 : sm_fitY 212 := ⟨r_M_needs, rc_M_needs, by rw [show decide ((sm_yn 212).name = "<init>") = false from by decide +kernel]; exact rf_M_needs⟩
theorem fy_213 : sm_fitY 213 := ⟨r_M_wayOf, rc_M_wayOf, by rw [show decide ((sm_yn 213).name = "<init>") = false from by decide +kernel]; exact rf_M_wayOf⟩
theorem fy_214 : sm_fitY 214 := ⟨r_M_choice, rc_M_choice, by rw [show decide ((sm_yn 214).name = "<init>") = false from by decide +kernel]; exact rf_M_choice⟩
theorem fy_215 : sm_fitY 215 := ⟨r_M_piece, rc_M_piece, by rw [show decide ((sm_yn 215).name = "<init>") = false from by decide +kernel]; exact rf_M_piece⟩
theorem fy_216 : sm_fitY 216 := ⟨r_M_room, rc_M_room, by rw [show decide ((sm_yn 216).name = "<init>") = false from by decide +kernel]; exact rf_M_room⟩
theorem fy_217 : sm_fitY 217 := ⟨r_M_person, rc_M_person, by rw [show decide ((sm_yn 217).name = "<init>") = false from by decide +kernel]; exact rf_M_person⟩
theorem fy_218 : sm_fitY 218 := ⟨r_M_four, rc_M_four, by rw [show decide ((sm_yn 218).name = "<init>") = false from by decide +kernel]; exact rf_M_four⟩
theorem fy_219 : sm_fitY 219 := ⟨r_M_feed, rc_M_feed, by rw [show decide ((sm_yn 219).name = "<init>") = false from by decide +kernel]; exact rf_M_feed⟩
theorem fy_220 : sm_fitY 220 := ⟨r_M_end, rc_M_end, by rw [show decide ((sm_yn 220).name = "<init>") = false from by decide +kernel]; exact rf_M_end⟩
theorem fy_221 : sm_fitY 221 := ⟨r_M_byteAt, rc_M_byteAt, by rw [show decide ((sm_yn 221).name = "<init>") = false from by decide +kernel]; exact rf_M_byteAt⟩
theorem fy_222 : sm_fitY 222 := ⟨r_M_isLetterByte, rc_M_isLetterByte, by rw [show decide ((sm_yn 222).name = "<init>") = false from by decide +kernel]; exact rf_M_isLetterByte⟩
theorem fy_223 : sm_fitY 223 := ⟨r_M_isFigure, rc_M_isFigure, by rw [show decide ((sm_yn 223).name = "<init>") = false from by decide +kernel]; exact rf_M_isFigure⟩
theorem fy_224 : sm_fitY 224 := ⟨r_M_isSign, rc_M_isSign, by rw [show decide ((sm_yn 224).name = "<init>") = false from by decide +kernel]; exact rf_M_isSign⟩
theorem fy_225 : sm_fitY 225 := ⟨r_M_nextToken, rc_M_nextToken, by rw [show decide ((sm_yn 225).name = "<init>") = false from by decide +kernel]; exact rf_M_nextToken⟩
theorem fy_226 : sm_fitY 226 := ⟨r_M_w2, rc_M_w2, by rw [show decide ((sm_yn 226).name = "<init>") = false from by decide +kernel]; exact rf_M_w2⟩
theorem fy_227 : sm_fitY 227 := ⟨r_M_w3, rc_M_w3, by rw [show decide ((sm_yn 227).name = "<init>") = false from by decide +kernel]; exact rf_M_w3⟩
theorem fy_228 : sm_fitY 228 := ⟨r_M_w4, rc_M_w4, by rw [show decide ((sm_yn 228).name = "<init>") = false from by decide +kernel]; exact rf_M_w4⟩
theorem fy_229 : sm_fitY 229 := ⟨r_M_w5, rc_M_w5, by rw [show decide ((sm_yn 229).name = "<init>") = false from by decide +kernel]; exact rf_M_w5⟩
theorem fy_230 : sm_fitY 230 := ⟨r_M_w6, rc_M_w6, by rw [show decide ((sm_yn 230).name = "<init>") = false from by decide +kernel]; exact rf_M_w6⟩
theorem fy_231 : sm_fitY 231 := ⟨r_M_isWord, rc_M_isWord, by rw [show decide ((sm_yn 231).name = "<init>") = false from by decide +kernel]; exact rf_M_isWord⟩
theorem fy_232 : sm_fitY 232 := ⟨r_M_emit, rc_M_emit, by rw [show decide ((sm_yn 232).name = "<init>") = false from by decide +kernel]; exact rf_M_emit⟩
theorem fy_233 : sm_fitY 233 := ⟨r_M_nameOf, rc_M_nameOf, by rw [show decide ((sm_yn 233).name = "<init>") = false from by decide +kernel]; exact rf_M_nameOf⟩
theorem fy_234 : sm_fitY 234 := ⟨r_M_rank, rc_M_rank, by rw [show decide ((sm_yn 234).name = "<init>") = false from by decide +kernel]; exact rf_M_rank⟩
theorem fy_235 : sm_fitY 235 := ⟨r_M_settle, rc_M_settle, by rw [show decide ((sm_yn 235).name = "<init>") = false from by decide +kernel]; exact rf_M_settle⟩
theorem fy_236 : sm_fitY 236 := ⟨r_M_openNow, rc_M_openNow, by rw [show decide ((sm_yn 236).name = "<init>") = false from by decide +kernel]; exact rf_M_openNow⟩
theorem fy_237 : sm_fitY 237 := ⟨r_M_isCompared, rc_M_isCompared, by rw [show decide ((sm_yn 237).name = "<init>") = false from by decide +kernel]; exact rf_M_isCompared⟩
theorem fy_238 : sm_fitY 238 := ⟨r_M_isAskHere, rc_M_isAskHere, by rw [show decide ((sm_yn 238).name = "<init>") = false from by decide +kernel]; exact rf_M_isAskHere⟩
theorem fy_239 : sm_fitY 239 := ⟨r_M_isAskAhead, rc_M_isAskAhead, by rw [show decide ((sm_yn 239).name = "<init>") = false from by decide +kernel]; exact rf_M_isAskAhead⟩
theorem fy_240 : sm_fitY 240 := ⟨r_M_opened, rc_M_opened, by rw [show decide ((sm_yn 240).name = "<init>") = false from by decide +kernel]; exact rf_M_opened⟩
theorem fy_241 : sm_fitY 241 := ⟨r_M_asked, rc_M_asked, by rw [show decide ((sm_yn 241).name = "<init>") = false from by decide +kernel]; exact rf_M_asked⟩
theorem fy_242 : sm_fitY 242 := ⟨r_M_beginOne, rc_M_beginOne, by rw [show decide ((sm_yn 242).name = "<init>") = false from by decide +kernel]; exact rf_M_beginOne⟩
theorem fy_243 : sm_fitY 243 := ⟨r_M_compareOf, rc_M_compareOf, by rw [show decide ((sm_yn 243).name = "<init>") = false from by decide +kernel]; exact rf_M_compareOf⟩
theorem fy_244 : sm_fitY 244 := ⟨r_M_betweenOf, rc_M_betweenOf, by rw [show decide ((sm_yn 244).name = "<init>") = false from by decide +kernel]; exact rf_M_betweenOf⟩
theorem fy_245 : sm_fitY 245 := ⟨r_M_nextOfCount, rc_M_nextOfCount, by rw [show decide ((sm_yn 245).name = "<init>") = false from by decide +kernel]; exact rf_M_nextOfCount⟩
theorem fy_246 : sm_fitY 246 := ⟨r_M_behindOne, rc_M_behindOne, by rw [show decide ((sm_yn 246).name = "<init>") = false from by decide +kernel]; exact rf_M_behindOne⟩
theorem fy_247 : sm_fitY 247 := ⟨r_M_whole, rc_M_whole, by rw [show decide ((sm_yn 247).name = "<init>") = false from by decide +kernel]; exact rf_M_whole⟩
theorem fy_248 : sm_fitY 248 := ⟨r_M_figure, rc_M_figure, by rw [show decide ((sm_yn 248).name = "<init>") = false from by decide +kernel]; exact rf_M_figure⟩
theorem fy_249 : sm_fitY 249 := ⟨r_M_lawClause, rc_M_lawClause, by rw [show decide ((sm_yn 249).name = "<init>") = false from by decide +kernel]; exact rf_M_lawClause⟩
theorem fy_250 : sm_fitY 250 := ⟨r_M_pair, rc_M_pair, by rw [show decide ((sm_yn 250).name = "<init>") = false from by decide +kernel]; exact rf_M_pair⟩
theorem fy_251 : sm_fitY 251 := ⟨r_M_body, rc_M_body, by rw [show decide ((sm_yn 251).name = "<init>") = false from by decide +kernel]; exact rf_M_body⟩
theorem fy_252 : sm_fitY 252 := ⟨r_M_sortOf, rc_M_sortOf, by rw [show decide ((sm_yn 252).name = "<init>") = false from by decide +kernel]; exact rf_M_sortOf⟩
theorem fy_253 : sm_fitY 253 := ⟨r_M_clause, rc_M_clause, by rw [show decide ((sm_yn 253).name = "<init>") = false from by decide +kernel]; exact rf_M_clause⟩
theorem fy_254 : sm_fitY 254 := ⟨r_M_readText, rc_M_readText, by rw [show decide ((sm_yn 254).name = "<init>") = false from by decide +kernel]; exact rf_M_readText⟩
theorem fy_255 : sm_fitY 255 := ⟨r_M_text, rc_M_text, by rw [show decide ((sm_yn 255).name = "<init>") = false from by decide +kernel]; exact rf_M_text⟩
theorem fy_256 : sm_fitY 256 := ⟨r_M_fault, rc_M_fault, by rw [show decide ((sm_yn 256).name = "<init>") = false from by decide +kernel]; exact rf_M_fault⟩
theorem fy_257 : sm_fitY 257 := ⟨r_M_by, rc_M_by, by rw [show decide ((sm_yn 257).name = "<init>") = false from by decide +kernel]; exact rf_M_by⟩
theorem fy_258 : sm_fitY 258 := ⟨r_M_clip, rc_M_clip, by rw [show decide ((sm_yn 258).name = "<init>") = false from by decide +kernel]; exact rf_M_clip⟩
theorem fy_259 : sm_fitY 259 := ⟨r_M_two, rc_M_two, by rw [show decide ((sm_yn 259).name = "<init>") = false from by decide +kernel]; exact rf_M_two⟩
theorem fy_260 : sm_fitY 260 := ⟨r_M_isAsked, rc_M_isAsked, by rw [show decide ((sm_yn 260).name = "<init>") = false from by decide +kernel]; exact rf_M_isAsked⟩
theorem fy_261 : sm_fitY 261 := ⟨r_M_counted, rc_M_counted, by rw [show decide ((sm_yn 261).name = "<init>") = false from by decide +kernel]; exact rf_M_counted⟩
theorem fy_262 : sm_fitY 262 := ⟨r_M_isSo, rc_M_isSo, by rw [show decide ((sm_yn 262).name = "<init>") = false from by decide +kernel]; exact rf_M_isSo⟩
theorem fy_263 : sm_fitY 263 := ⟨r_M_eventsOf, rc_M_eventsOf, by rw [show decide ((sm_yn 263).name = "<init>") = false from by decide +kernel]; exact rf_M_eventsOf⟩
theorem fy_264 : sm_fitY 264 := ⟨r_M_layWay, rc_M_layWay, by rw [show decide ((sm_yn 264).name = "<init>") = false from by decide +kernel]; exact rf_M_layWay⟩
theorem fy_265 : sm_fitY 265 := ⟨r_M_layWays, rc_M_layWays, by rw [show decide ((sm_yn 265).name = "<init>") = false from by decide +kernel]; exact rf_M_layWays⟩
theorem fy_266 : sm_fitY 266 := ⟨r_M_layAll, rc_M_layAll, by rw [show decide ((sm_yn 266).name = "<init>") = false from by decide +kernel]; exact rf_M_layAll⟩
theorem fy_267 : sm_fitY 267 := ⟨r_M_areAgreed, rc_M_areAgreed, by rw [show decide ((sm_yn 267).name = "<init>") = false from by decide +kernel]; exact rf_M_areAgreed⟩
theorem fy_268 : sm_fitY 268 := ⟨r_M_keep, rc_M_keep, by rw [show decide ((sm_yn 268).name = "<init>") = false from by decide +kernel]; exact rf_M_keep⟩
theorem fy_269 : sm_fitY 269 := ⟨r_M_undo, rc_M_undo, by rw [show decide ((sm_yn 269).name = "<init>") = false from by decide +kernel]; exact rf_M_undo⟩
theorem fy_270 : sm_fitY 270 := ⟨r_M_was, rc_M_was, by rw [show decide ((sm_yn 270).name = "<init>") = false from by decide +kernel]; exact rf_M_was⟩
theorem fy_271 : sm_fitY 271 := ⟨r_M_turn, rc_M_turn, by rw [show decide ((sm_yn 271).name = "<init>") = false from by decide +kernel]; exact rf_M_turn⟩
theorem fy_272 : sm_fitY 272 := ⟨r_M_set, rc_M_set, by rw [show decide ((sm_yn 272).name = "<init>") = false from by decide +kernel]; exact rf_M_set⟩
theorem fy_273 : sm_fitY 273 := ⟨r_M_piecesIn, rc_M_piecesIn, by rw [show decide ((sm_yn 273).name = "<init>") = false from by decide +kernel]; exact rf_M_piecesIn⟩
theorem fy_274 : sm_fitY 274 := ⟨r_M_canPut, rc_M_canPut, by rw [show decide ((sm_yn 274).name = "<init>") = false from by decide +kernel]; exact rf_M_canPut⟩
theorem fy_275 : sm_fitY 275 := ⟨r_M_put, rc_M_put, by rw [show decide ((sm_yn 275).name = "<init>") = false from by decide +kernel]; exact rf_M_put⟩
theorem fy_276 : sm_fitY 276 := ⟨r_M_take, rc_M_take, by rw [show decide ((sm_yn 276).name = "<init>") = false from by decide +kernel]; exact rf_M_take⟩
theorem fy_277 : sm_fitY 277 := ⟨r_M_isPlayed, rc_M_isPlayed, by rw [show decide ((sm_yn 277).name = "<init>") = false from by decide +kernel]; exact rf_M_isPlayed⟩
theorem fy_278 : sm_fitY 278 := ⟨r_M_played, rc_M_played, by rw [show decide ((sm_yn 278).name = "<init>") = false from by decide +kernel]; exact rf_M_played⟩
theorem fy_279 : sm_fitY 279 := ⟨r_M_happens, rc_M_happens, by rw [show decide ((sm_yn 279).name = "<init>") = false from by decide +kernel]; exact rf_M_happens⟩
theorem fy_280 : sm_fitY 280 := ⟨r_M_years, rc_M_years, by rw [show decide ((sm_yn 280).name = "<init>") = false from by decide +kernel]; exact rf_M_years⟩
theorem fy_281 : sm_fitY 281 := ⟨r_M_ofChoice, rc_M_ofChoice, by rw [show decide ((sm_yn 281).name = "<init>") = false from by decide +kernel]; exact rf_M_ofChoice⟩
theorem fy_282 : sm_fitY 282 := ⟨r_M_ofPiece, rc_M_ofPiece, by rw [show decide ((sm_yn 282).name = "<init>") = false from by decide +kernel]; exact rf_M_ofPiece⟩
theorem fy_283 : sm_fitY 283 := ⟨r_M_ofRoom, rc_M_ofRoom, by rw [show decide ((sm_yn 283).name = "<init>") = false from by decide +kernel]; exact rf_M_ofRoom⟩
theorem fy_284 : sm_fitY 284 := ⟨r_M_agrees, rc_M_agrees, by rw [show decide ((sm_yn 284).name = "<init>") = false from by decide +kernel]; exact rf_M_agrees⟩
theorem fy_285 : sm_fitY 285 := ⟨r_M_follows, rc_M_follows, by rw [show decide ((sm_yn 285).name = "<init>") = false from by decide +kernel]; exact rf_M_follows⟩
theorem fy_286 : sm_fitY 286 := ⟨r_M_mayBe, rc_M_mayBe, by rw [show decide ((sm_yn 286).name = "<init>") = false from by decide +kernel]; exact rf_M_mayBe⟩
theorem fy_287 : sm_fitY 287 := ⟨r_M_cannot, rc_M_cannot, by rw [show decide ((sm_yn 287).name = "<init>") = false from by decide +kernel]; exact rf_M_cannot⟩
theorem fy_288 : sm_fitY 288 := ⟨r_M_agreed, rc_M_agreed, by rw [show decide ((sm_yn 288).name = "<init>") = false from by decide +kernel]; exact rf_M_agreed⟩
theorem fy_289 : sm_fitY 289 := ⟨r_M_most, rc_M_most, by rw [show decide ((sm_yn 289).name = "<init>") = false from by decide +kernel]; exact rf_M_most⟩
theorem fy_290 : sm_fitY 290 := ⟨r_M_isClash, rc_M_isClash, by rw [show decide ((sm_yn 290).name = "<init>") = false from by decide +kernel]; exact rf_M_isClash⟩
theorem fy_291 : sm_fitY 291 := ⟨r_M_clash, rc_M_clash, by rw [show decide ((sm_yn 291).name = "<init>") = false from by decide +kernel]; exact rf_M_clash⟩
theorem fy_292 : sm_fitY 292 := ⟨r_M_fact, rc_M_fact, by rw [show decide ((sm_yn 292).name = "<init>") = false from by decide +kernel]; exact rf_M_fact⟩
theorem fy_293 : sm_fitY 293 := ⟨r_M_isLeft, rc_M_isLeft, by rw [show decide ((sm_yn 293).name = "<init>") = false from by decide +kernel]; exact rf_M_isLeft⟩
theorem fy_294 : sm_fitY 294 := ⟨r_M_left, rc_M_left, by rw [show decide ((sm_yn 294).name = "<init>") = false from by decide +kernel]; exact rf_M_left⟩
theorem fy_295 : sm_fitY 295 := ⟨r_M_sure, rc_M_sure, by rw [show decide ((sm_yn 295).name = "<init>") = false from by decide +kernel]; exact rf_M_sure⟩
theorem fy_296 : sm_fitY 296 := ⟨r_M_isTelling, rc_M_isTelling, by rw [show decide ((sm_yn 296).name = "<init>") = false from by decide +kernel]; exact rf_M_isTelling⟩
theorem fy_297 : sm_fitY 297 := ⟨r_M_ask, rc_M_ask, by rw [show decide ((sm_yn 297).name = "<init>") = false from by decide +kernel]; exact rf_M_ask⟩
theorem fy_298 : sm_fitY 298 := ⟨r_M_halves, rc_M_halves, by rw [show decide ((sm_yn 298).name = "<init>") = false from by decide +kernel]; exact rf_M_halves⟩
theorem fy_299 : sm_fitY 299 := ⟨r_M_least, rc_M_least, by rw [show decide ((sm_yn 299).name = "<init>") = false from by decide +kernel]; exact rf_M_least⟩
theorem fy_300 : sm_fitY 300 := ⟨r_M_changing, rc_M_changing, by rw [show decide ((sm_yn 300).name = "<init>") = false from by decide +kernel]; exact rf_M_changing⟩
theorem fy_301 : sm_fitY 301 := ⟨r_M_noMatter, rc_M_noMatter, by rw [show decide ((sm_yn 301).name = "<init>") = false from by decide +kernel]; exact rf_M_noMatter⟩
theorem fy_302 : sm_fitY 302 := ⟨r_M_common, rc_M_common, by rw [show decide ((sm_yn 302).name = "<init>") = false from by decide +kernel]; exact rf_M_common⟩
theorem fy_303 : sm_fitY 303 := ⟨r_M_part, rc_M_part, by rw [show decide ((sm_yn 303).name = "<init>") = false from by decide +kernel]; exact rf_M_part⟩
theorem fy_304 : sm_fitY 304 := ⟨r_M_turnsIt, rc_M_turnsIt, by rw [show decide ((sm_yn 304).name = "<init>") = false from by decide +kernel]; exact rf_M_turnsIt⟩
theorem fy_305 : sm_fitY 305 := ⟨r_M_leanOn, rc_M_leanOn, by rw [show decide ((sm_yn 305).name = "<init>") = false from by decide +kernel]; exact rf_M_leanOn⟩
theorem fy_306 : sm_fitY 306 := ⟨r_M_agreeIn, rc_M_agreeIn, by rw [show decide ((sm_yn 306).name = "<init>") = false from by decide +kernel]; exact rf_M_agreeIn⟩
theorem fy_307 : sm_fitY 307 := ⟨r_M_isThere, rc_M_isThere, by rw [show decide ((sm_yn 307).name = "<init>") = false from by decide +kernel]; exact rf_M_isThere⟩
theorem fy_308 : sm_fitY 308 := ⟨r_M_there, rc_M_there, by rw [show decide ((sm_yn 308).name = "<init>") = false from by decide +kernel]; exact rf_M_there⟩
theorem fy_309 : sm_fitY 309 := ⟨r_M_thereIn, rc_M_thereIn, by rw [show decide ((sm_yn 309).name = "<init>") = false from by decide +kernel]; exact rf_M_thereIn⟩
theorem fy_310 : sm_fitY 310 := ⟨r_M_lookedFor, rc_M_lookedFor, by rw [show decide ((sm_yn 310).name = "<init>") = false from by decide +kernel]; exact rf_M_lookedFor⟩
theorem fy_311 : sm_fitY 311 := ⟨r_M_elders, rc_M_elders, by rw [show decide ((sm_yn 311).name = "<init>") = false from by decide +kernel]; exact rf_M_elders⟩
theorem fy_312 : sm_fitY 312 := ⟨r_M_findDoors, rc_M_findDoors, by rw [show decide ((sm_yn 312).name = "<init>") = false from by decide +kernel]; exact rf_M_findDoors⟩
theorem fy_313 : sm_fitY 313 := ⟨r_M_walk, rc_M_walk, by rw [show decide ((sm_yn 313).name = "<init>") = false from by decide +kernel]; exact rf_M_walk⟩
theorem fy_314 : sm_fitY 314 := ⟨r_M_nextDoor, rc_M_nextDoor, by rw [show decide ((sm_yn 314).name = "<init>") = false from by decide +kernel]; exact rf_M_nextDoor⟩
theorem fy_315 : sm_fitY 315 := ⟨r_M_empty, rc_M_empty, by rw [show decide ((sm_yn 315).name = "<init>") = false from by decide +kernel]; exact rf_M_empty⟩
theorem fy_316 : sm_fitY 316 := ⟨r_M_isText, rc_M_isText, by rw [show decide ((sm_yn 316).name = "<init>") = false from by decide +kernel]; exact rf_M_isText⟩
theorem fy_317 : sm_fitY 317 := ⟨r_M_unlikeOf, rc_M_unlikeOf, by rw [show decide ((sm_yn 317).name = "<init>") = false from by decide +kernel]; exact rf_M_unlikeOf⟩
theorem fy_318 : sm_fitY 318 := ⟨r_M_differ, rc_M_differ, by rw [show decide ((sm_yn 318).name = "<init>") = false from by decide +kernel]; exact rf_M_differ⟩
theorem fy_319 : sm_fitY 319 := ⟨r_M_unlike, rc_M_unlike, by rw [show decide ((sm_yn 319).name = "<init>") = false from by decide +kernel]; exact rf_M_unlike⟩
theorem fy_320 : sm_fitY 320 := ⟨r_M_gifts, rc_M_gifts, by rw [show decide ((sm_yn 320).name = "<init>") = false from by decide +kernel]; exact rf_M_gifts⟩
theorem fy_321 : sm_fitY 321 := ⟨r_M_oddsOf, rc_M_oddsOf, by rw [show decide ((sm_yn 321).name = "<init>") = false from by decide +kernel]; exact rf_M_oddsOf⟩
theorem fy_322 : sm_fitY 322 := ⟨r_M_allOdds, rc_M_allOdds, by rw [show decide ((sm_yn 322).name = "<init>") = false from by decide +kernel]; exact rf_M_allOdds⟩
theorem fy_323 : sm_fitY 323 := ⟨r_M_chance, rc_M_chance, by rw [show decide ((sm_yn 323).name = "<init>") = false from by decide +kernel]; exact rf_M_chance⟩
theorem fy_324 : sm_fitY 324 := ⟨r_M_chanceOf, rc_M_chanceOf, by rw [show decide ((sm_yn 324).name = "<init>") = false from by decide +kernel]; exact rf_M_chanceOf⟩
theorem fy_325 : sm_fitY 325 := ⟨r_M_nearly, rc_M_nearly, by rw [show decide ((sm_yn 325).name = "<init>") = false from by decide +kernel]; exact rf_M_nearly⟩
theorem fy_326 : sm_fitY 326 := ⟨r_M_laidBy, rc_M_laidBy, by rw [show decide ((sm_yn 326).name = "<init>") = false from by decide +kernel]; exact rf_M_laidBy⟩
theorem fy_327 : sm_fitY 327 := ⟨r_M_layOut, rc_M_layOut, by rw [show decide ((sm_yn 327).name = "<init>") = false from by decide +kernel]; exact rf_M_layOut⟩
theorem fy_328 : sm_fitY 328 := ⟨r_M_laidOut, rc_M_laidOut, by rw [show decide ((sm_yn 328).name = "<init>") = false from by decide +kernel]; exact rf_M_laidOut⟩
theorem fy_329 : sm_fitY 329 := ⟨r_M_alike, rc_M_alike, by rw [show decide ((sm_yn 329).name = "<init>") = false from by decide +kernel]; exact rf_M_alike⟩
theorem fy_330 : sm_fitY 330 := ⟨r_M_image, rc_M_image, by rw [show decide ((sm_yn 330).name = "<init>") = false from by decide +kernel]; exact rf_M_image⟩
theorem fy_331 : sm_fitY 331 := ⟨r_M_back, rc_M_back, by rw [show decide ((sm_yn 331).name = "<init>") = false from by decide +kernel]; exact rf_M_back⟩
theorem fy_332 : sm_fitY 332 := ⟨r_M_about, rc_M_about, by rw [show decide ((sm_yn 332).name = "<init>") = false from by decide +kernel]; exact rf_M_about⟩
def sm_fitL : List Nat → Prop
  | [] => True
  | y :: l => sm_fitY y ∧ sm_fitL l
theorem sm_fitL_at : ∀ {l : List Nat}, sm_fitL l → ∀ {y : Nat}, y ∈ l → sm_fitY y
  | _ :: _, h, y, hm => by
    rcases List.mem_cons.mp hm with rfl | hm
    · exact h.1
    · exact sm_fitL_at h.2 hm
def fyl_0 : List Nat := [0, 1, 2, 3, 4, 5, 6, 7, 8, 9, 10, 11, 12, 13, 14, 15, 16, 17, 18, 19, 20, 21, 22, 23, 24, 25, 26, 27, 28, 29, 30, 31, 32, 33, 34, 35, 36, 37, 38, 39, 40, 41, 42, 43, 44, 45, 46, 47, 48, 49, 50, 51, 52, 53, 54, 55, 56, 57, 58, 60]
theorem fl_0 : sm_fitL fyl_0 := ⟨fy_0, fy_1, fy_2, fy_3, fy_4, fy_5, fy_6, fy_7, fy_8, fy_9, fy_10, fy_11, fy_12, fy_13, fy_14, fy_15, fy_16, fy_17, fy_18, fy_19, fy_20, fy_21, fy_22, fy_23, fy_24, fy_25, fy_26, fy_27, fy_28, fy_29, fy_30, fy_31, fy_32, fy_33, fy_34, fy_35, fy_36, fy_37, fy_38, fy_39, fy_40, fy_41, fy_42, fy_43, fy_44, fy_45, fy_46, fy_47, fy_48, fy_49, fy_50, fy_51, fy_52, fy_53, fy_54, fy_55, fy_56, fy_57, fy_58, fy_60, trivial⟩
def fyl_1 : List Nat := [61, 62, 63, 64, 65, 66, 67, 68, 69, 70, 71, 72, 73, 74, 75, 76, 77, 78, 79, 80, 81, 82, 83, 84, 85, 86, 87, 88, 89, 90, 91, 92, 93, 94, 95, 96, 97, 98, 99, 100, 101, 102, 103, 104, 105, 106, 107, 108, 109, 110, 111, 112, 113, 114, 115, 116, 117, 118, 119, 120]
theorem fl_1 : sm_fitL fyl_1 := ⟨fy_61, fy_62, fy_63, fy_64, fy_65, fy_66, fy_67, fy_68, fy_69, fy_70, fy_71, fy_72, fy_73, fy_74, fy_75, fy_76, fy_77, fy_78, fy_79, fy_80, fy_81, fy_82, fy_83, fy_84, fy_85, fy_86, fy_87, fy_88, fy_89, fy_90, fy_91, fy_92, fy_93, fy_94, fy_95, fy_96, fy_97, fy_98, fy_99, fy_100, fy_101, fy_102, fy_103, fy_104, fy_105, fy_106, fy_107, fy_108, fy_109, fy_110, fy_111, fy_112, fy_113, fy_114, fy_115, fy_116, fy_117, fy_118, fy_119, fy_120, trivial⟩
def fyl_2 : List Nat := [121, 122, 123, 124, 125, 126, 127, 128, 129, 130, 131, 132, 133, 134, 135, 136, 137, 138, 139, 140, 141, 142, 143, 144, 145, 146, 147, 148, 149, 150, 151, 152, 153, 154, 155, 156, 157, 158, 159, 160, 161, 162, 163, 164, 165, 166, 167, 168, 169, 170, 171, 172, 173, 174, 175, 176, 177, 178, 179, 180]
theorem fl_2 : sm_fitL fyl_2 := ⟨fy_121, fy_122, fy_123, fy_124, fy_125, fy_126, fy_127, fy_128, fy_129, fy_130, fy_131, fy_132, fy_133, fy_134, fy_135, fy_136, fy_137, fy_138, fy_139, fy_140, fy_141, fy_142, fy_143, fy_144, fy_145, fy_146, fy_147, fy_148, fy_149, fy_150, fy_151, fy_152, fy_153, fy_154, fy_155, fy_156, fy_157, fy_158, fy_159, fy_160, fy_161, fy_162, fy_163, fy_164, fy_165, fy_166, fy_167, fy_168, fy_169, fy_170, fy_171, fy_172, fy_173, fy_174, fy_175, fy_176, fy_177, fy_178, fy_179, fy_180, trivial⟩
def fyl_3 : List Nat := [181, 182, 183, 184, 185, 186, 187, 188, 189, 190, 191, 192, 193, 194, 195, 196, 197, 198, 199, 200, 201, 202, 203, 204, 205, 206, 207, 208, 209, 210, 211, 212, 213, 214, 215, 216, 217, 218, 219, 220, 221, 222, 223, 224, 225, 226, 227, 228, 229, 230, 231, 232, 233, 234, 235, 236, 237, 238, 239, 240]
theorem fl_3 : sm_fitL fyl_3 := ⟨fy_181, fy_182, fy_183, fy_184, fy_185, fy_186, fy_187, fy_188, fy_189, fy_190, fy_191, fy_192, fy_193, fy_194, fy_195, fy_196, fy_197, fy_198, fy_199, fy_200, fy_201, fy_202, fy_203, fy_204, fy_205, fy_206, fy_207, fy_208, fy_209, fy_210, fy_211, fy_212, fy_213, fy_214, fy_215, fy_216, fy_217, fy_218, fy_219, fy_220, fy_221, fy_222, fy_223, fy_224, fy_225, fy_226, fy_227, fy_228, fy_229, fy_230, fy_231, fy_232, fy_233, fy_234, fy_235, fy_236, fy_237, fy_238, fy_239, fy_240, trivial⟩
def fyl_4 : List Nat := [241, 242, 243, 244, 245, 246, 247, 248, 249, 250, 251, 252, 253, 254, 255, 256, 257, 258, 259, 260, 261, 262, 263, 264, 265, 266, 267, 268, 269, 270, 271, 272, 273, 274, 275, 276, 277, 278, 279, 280, 281, 282, 283, 284, 285, 286, 287, 288, 289, 290, 291, 292, 293, 294, 295, 296, 297, 298, 299, 300]
theorem fl_4 : sm_fitL fyl_4 := ⟨fy_241, fy_242, fy_243, fy_244, fy_245, fy_246, fy_247, fy_248, fy_249, fy_250, fy_251, fy_252, fy_253, fy_254, fy_255, fy_256, fy_257, fy_258, fy_259, fy_260, fy_261, fy_262, fy_263, fy_264, fy_265, fy_266, fy_267, fy_268, fy_269, fy_270, fy_271, fy_272, fy_273, fy_274, fy_275, fy_276, fy_277, fy_278, fy_279, fy_280, fy_281, fy_282, fy_283, fy_284, fy_285, fy_286, fy_287, fy_288, fy_289, fy_290, fy_291, fy_292, fy_293, fy_294, fy_295, fy_296, fy_297, fy_298, fy_299, fy_300, trivial⟩
def fyl_5 : List Nat := [301, 302, 303, 304, 305, 306, 307, 308, 309, 310, 311, 312, 313, 314, 315, 316, 317, 318, 319, 320, 321, 322, 323, 324, 325, 326, 327, 328, 329, 330, 331, 332]
theorem fl_5 : sm_fitL fyl_5 := ⟨fy_301, fy_302, fy_303, fy_304, fy_305, fy_306, fy_307, fy_308, fy_309, fy_310, fy_311, fy_312, fy_313, fy_314, fy_315, fy_316, fy_317, fy_318, fy_319, fy_320, fy_321, fy_322, fy_323, fy_324, fy_325, fy_326, fy_327, fy_328, fy_329, fy_330, fy_331, fy_332, trivial⟩
theorem fy_b : (List.range 333).all (fun y => y == 59 || (fyl_0.contains y || fyl_1.contains y || fyl_2.contains y || fyl_3.contains y || fyl_4.contains y || fyl_5.contains y)) = true := by decide +kernel
theorem fy_in : ∀ y, y < 333 → y ≠ 59 → (y ∈ fyl_0 ∨ y ∈ fyl_1 ∨ y ∈ fyl_2 ∨ y ∈ fyl_3 ∨ y ∈ fyl_4 ∨ y ∈ fyl_5) := by
  intro y hy hn
  have h := List.all_eq_true.mp fy_b y (List.mem_range.mpr hy)
  simpa [hn, or_assoc] using h
theorem fy_all : ∀ y, y < 333 → y ≠ 59 → sm_fitY y := by
  intro y hy hn
  rcases fy_in y hy hn with h | h | h | h | h | h
  · exact sm_fitL_at fl_0 h
  · exact sm_fitL_at fl_1 h
  · exact sm_fitL_at fl_2 h
  · exact sm_fitL_at fl_3 h
  · exact sm_fitL_at fl_4 h
  · exact sm_fitL_at fl_5 h
