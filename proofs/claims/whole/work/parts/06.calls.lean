theorem u_0 : Cond.selects RX2 yX2_sign yX2_sign ∈ gU := gu_in (List.mem_of_getElem? (i := 0) (by decide +kernel)) rfl
theorem u_1 : Cond.selects RX2 yX2_readGain yX2_readGain ∈ gU := gu_in (List.mem_of_getElem? (i := 1) (by decide +kernel)) rfl
theorem u_2 : Cond.selects RX2 yX2_takeAll yX2_takeAll ∈ gU := gu_in (List.mem_of_getElem? (i := 2) (by decide +kernel)) rfl
theorem u_3 : Cond.selects RX2 yX2_take yX2_take ∈ gU := gu_in (List.mem_of_getElem? (i := 3) (by decide +kernel)) rfl
theorem u_4 : Cond.selects RX2 yX2_readNumber yX2_readNumber ∈ gU := gu_in (List.mem_of_getElem? (i := 4) (by decide +kernel)) rfl
theorem u_5 : Cond.selects RX2 yX2_readEither yX2_readEither ∈ gU := gu_in (List.mem_of_getElem? (i := 5) (by decide +kernel)) rfl
theorem u_6 : Cond.selects RX2 yX2_readBoth yX2_readBoth ∈ gU := gu_in (List.mem_of_getElem? (i := 6) (by decide +kernel)) rfl
theorem u_7 : Cond.selects RX2 yX2_readPart yX2_readPart ∈ gU := gu_in (List.mem_of_getElem? (i := 7) (by decide +kernel)) rfl
theorem u_8 : Cond.selects RX2 yX2_add yX2_add ∈ gU := gu_in (List.mem_of_getElem? (i := 8) (by decide +kernel)) rfl
theorem u_9 : Cond.selects RX2 yX2_readShare yX2_readShare ∈ gU := gu_in (List.mem_of_getElem? (i := 9) (by decide +kernel)) rfl
theorem u_10 : Cond.selects RX1 yX1_gather yX1_gather ∈ gU := gu_in (List.mem_of_getElem? (i := 10) (by decide +kernel)) rfl
theorem u_11 : Cond.selects RX1 yX1_markTeam yX1_markTeam ∈ gU := gu_in (List.mem_of_getElem? (i := 11) (by decide +kernel)) rfl
theorem u_12 : Cond.selects RX1 yX1_share yX1_share ∈ gU := gu_in (List.mem_of_getElem? (i := 12) (by decide +kernel)) rfl
theorem u_13 : Cond.selects RX1 yX1_rank yX1_rank ∈ gU := gu_in (List.mem_of_getElem? (i := 13) (by decide +kernel)) rfl
theorem u_14 : Cond.selects RX1 yX1_meanOfTeam yX1_meanOfTeam ∈ gU := gu_in (List.mem_of_getElem? (i := 14) (by decide +kernel)) rfl
theorem u_15 : Cond.selects RX11 yX11_gradeUnder yX11_gradeUnder ∈ gU := gu_in (List.mem_of_getElem? (i := 15) (by decide +kernel)) rfl
theorem u_16 : Cond.selects RX11 yX11_bothGain yX11_bothGain ∈ gU := gu_in (List.mem_of_getElem? (i := 16) (by decide +kernel)) rfl
theorem u_17 : Cond.selects RX11 yX11_goYear yX11_goYear ∈ gU := gu_in (List.mem_of_getElem? (i := 17) (by decide +kernel)) rfl
theorem u_18 : Cond.selects RX11 yX11_outByGrade yX11_outByGrade ∈ gU := gu_in (List.mem_of_getElem? (i := 18) (by decide +kernel)) rfl
theorem u_19 : Cond.selects RX11 yX11_howManyNets yX11_howManyNets ∈ gU := gu_in (List.mem_of_getElem? (i := 19) (by decide +kernel)) rfl
theorem u_20 : Cond.selects RX11 yX11_netOf yX11_netOf ∈ gU := gu_in (List.mem_of_getElem? (i := 20) (by decide +kernel)) rfl
theorem u_21 : Cond.selects RX11 yX11_neighbours yX11_neighbours ∈ gU := gu_in (List.mem_of_getElem? (i := 21) (by decide +kernel)) rfl
theorem u_22 : Cond.selects RX12 yX12_clauseHere yX12_clauseHere ∈ gU := gu_in (List.mem_of_getElem? (i := 22) (by decide +kernel)) rfl
theorem u_23 : Cond.selects RX12 yX12_here yX12_here ∈ gU := gu_in (List.mem_of_getElem? (i := 23) (by decide +kernel)) rfl
theorem u_24 : Cond.selects RX12 yX12_much yX12_much ∈ gU := gu_in (List.mem_of_getElem? (i := 24) (by decide +kernel)) rfl
theorem u_25 : Cond.selects RX12 yX12_spells yX12_spells ∈ gU := gu_in (List.mem_of_getElem? (i := 25) (by decide +kernel)) rfl
theorem u_26 : Cond.selects RX12 yX12_must yX12_must ∈ gU := gu_in (List.mem_of_getElem? (i := 26) (by decide +kernel)) rfl
theorem u_27 : Cond.selects RX12 yX12_figures yX12_figures ∈ gU := gu_in (List.mem_of_getElem? (i := 27) (by decide +kernel)) rfl
theorem u_28 : Cond.selects RX12 yX12_some yX12_some ∈ gU := gu_in (List.mem_of_getElem? (i := 28) (by decide +kernel)) rfl
theorem u_29 : Cond.selects RX12 yX12_every yX12_every ∈ gU := gu_in (List.mem_of_getElem? (i := 29) (by decide +kernel)) rfl
theorem u_30 : Cond.selects RX12 yX12_factor yX12_factor ∈ gU := gu_in (List.mem_of_getElem? (i := 30) (by decide +kernel)) rfl
theorem u_31 : Cond.selects RX12 yX12_emits yX12_emits ∈ gU := gu_in (List.mem_of_getElem? (i := 31) (by decide +kernel)) rfl
theorem u_32 : Cond.selects RX12 yX12_among yX12_among ∈ gU := gu_in (List.mem_of_getElem? (i := 32) (by decide +kernel)) rfl
theorem u_33 : Cond.selects RX12 yX12_tellsHere yX12_tellsHere ∈ gU := gu_in (List.mem_of_getElem? (i := 33) (by decide +kernel)) rfl
theorem u_34 : Cond.selects RX12 yX12_tellsOf yX12_tellsOf ∈ gU := gu_in (List.mem_of_getElem? (i := 34) (by decide +kernel)) rfl
theorem u_35 : Cond.selects RX12 yX12_isChief yX12_isChief ∈ gU := gu_in (List.mem_of_getElem? (i := 35) (by decide +kernel)) rfl
theorem u_36 : Cond.selects RX12 yX12_teamOf yX12_teamOf ∈ gU := gu_in (List.mem_of_getElem? (i := 36) (by decide +kernel)) rfl
theorem u_37 : Cond.selects RX12 yX12_isWorker yX12_isWorker ∈ gU := gu_in (List.mem_of_getElem? (i := 37) (by decide +kernel)) rfl
theorem u_38 : Cond.selects RX12 yX12_markOf yX12_markOf ∈ gU := gu_in (List.mem_of_getElem? (i := 38) (by decide +kernel)) rfl
theorem u_39 : Cond.selects RX12 yX12_moreOf yX12_moreOf ∈ gU := gu_in (List.mem_of_getElem? (i := 39) (by decide +kernel)) rfl
theorem u_40 : Cond.selects RX12 yX12_gradesAll yX12_gradesAll ∈ gU := gu_in (List.mem_of_getElem? (i := 40) (by decide +kernel)) rfl
theorem u_41 : Cond.selects RX12 yX12_gradesTeam yX12_gradesTeam ∈ gU := gu_in (List.mem_of_getElem? (i := 41) (by decide +kernel)) rfl
theorem u_42 : Cond.selects RX12 yX12_shareOf yX12_shareOf ∈ gU := gu_in (List.mem_of_getElem? (i := 42) (by decide +kernel)) rfl
theorem u_43 : Cond.selects RX12 yX12_inTeam yX12_inTeam ∈ gU := gu_in (List.mem_of_getElem? (i := 43) (by decide +kernel)) rfl
theorem u_44 : Cond.selects RX12 yX12_givesFives yX12_givesFives ∈ gU := gu_in (List.mem_of_getElem? (i := 44) (by decide +kernel)) rfl
theorem u_45 : Cond.selects RX12 yX12_onesBy yX12_onesBy ∈ gU := gu_in (List.mem_of_getElem? (i := 45) (by decide +kernel)) rfl
theorem u_46 : Cond.selects RX12 yX12_turnsOnes yX12_turnsOnes ∈ gU := gu_in (List.mem_of_getElem? (i := 46) (by decide +kernel)) rfl
theorem u_47 : Cond.selects RX12 yX12_givesOnes yX12_givesOnes ∈ gU := gu_in (List.mem_of_getElem? (i := 47) (by decide +kernel)) rfl
theorem u_48 : Cond.selects RX12 yX12_duesAll yX12_duesAll ∈ gU := gu_in (List.mem_of_getElem? (i := 48) (by decide +kernel)) rfl
theorem u_49 : Cond.selects RX12 yX12_levelsAll yX12_levelsAll ∈ gU := gu_in (List.mem_of_getElem? (i := 49) (by decide +kernel)) rfl
theorem u_50 : Cond.selects RX12 yX12_meanOf yX12_meanOf ∈ gU := gu_in (List.mem_of_getElem? (i := 50) (by decide +kernel)) rfl
theorem u_51 : Cond.selects RX12 yX12_movedOf yX12_movedOf ∈ gU := gu_in (List.mem_of_getElem? (i := 51) (by decide +kernel)) rfl
theorem u_52 : Cond.selects RX12 yX12_changes yX12_changes ∈ gU := gu_in (List.mem_of_getElem? (i := 52) (by decide +kernel)) rfl
theorem u_53 : Cond.selects RX12 yX12_yearGoes yX12_yearGoes ∈ gU := gu_in (List.mem_of_getElem? (i := 53) (by decide +kernel)) rfl
theorem u_54 : Cond.selects RX12 yX12_newOne yX12_newOne ∈ gU := gu_in (List.mem_of_getElem? (i := 54) (by decide +kernel)) rfl
theorem u_55 : Cond.selects RX12 yX12_keeps yX12_keeps ∈ gU := gu_in (List.mem_of_getElem? (i := 55) (by decide +kernel)) rfl
theorem u_56 : Cond.selects RX12 yX12_goesBack yX12_goesBack ∈ gU := gu_in (List.mem_of_getElem? (i := 56) (by decide +kernel)) rfl
theorem u_57 : Cond.selects RX12 yX12_netOf yX12_netOf ∈ gU := gu_in (List.mem_of_getElem? (i := 57) (by decide +kernel)) rfl
theorem u_58 : Cond.selects RX12 yX12_haveBoth yX12_haveBoth ∈ gU := gu_in (List.mem_of_getElem? (i := 58) (by decide +kernel)) rfl
theorem u_59 : Cond.selects RX12 yX12_firstRow yX12_firstRow ∈ gU := gu_in (List.mem_of_getElem? (i := 59) (by decide +kernel)) rfl
theorem u_60 : Cond.selects RX12 yX12_worksActs yX12_worksActs ∈ gU := gu_in (List.mem_of_getElem? (i := 60) (by decide +kernel)) rfl
theorem u_61 : Cond.selects RX12 yX12_ranBody yX12_ranBody ∈ gU := gu_in (List.mem_of_getElem? (i := 61) (by decide +kernel)) rfl
theorem u_62 : Cond.selects RX12 yX12_plainWorks yX12_plainWorks ∈ gU := gu_in (List.mem_of_getElem? (i := 62) (by decide +kernel)) rfl
theorem u_63 : Cond.selects RX12 yX12_gradesActs yX12_gradesActs ∈ gU := gu_in (List.mem_of_getElem? (i := 63) (by decide +kernel)) rfl
theorem u_64 : Cond.selects RX12 yX12_plainGrades yX12_plainGrades ∈ gU := gu_in (List.mem_of_getElem? (i := 64) (by decide +kernel)) rfl
theorem u_65 : Cond.selects RX12 yX12_levelsActs yX12_levelsActs ∈ gU := gu_in (List.mem_of_getElem? (i := 65) (by decide +kernel)) rfl
theorem u_66 : Cond.selects RX12 yX12_plainLevels yX12_plainLevels ∈ gU := gu_in (List.mem_of_getElem? (i := 66) (by decide +kernel)) rfl
theorem u_68 : Cond.initialized RX11 ∈ gU := gu_in (List.mem_of_getElem? (i := 68) (by decide +kernel)) rfl
theorem u_69 : Cond.initialized RX10 ∈ gU := gu_in (List.mem_of_getElem? (i := 69) (by decide +kernel)) rfl
theorem u_70 : Cond.initialized RX2 ∈ gU := gu_in (List.mem_of_getElem? (i := 70) (by decide +kernel)) rfl
theorem u_71 : Cond.initialized "java/lang/Math" ∈ gU := gu_in (List.mem_of_getElem? (i := 71) (by decide +kernel)) rfl
theorem u_72 : Cond.initialized RX1 ∈ gU := gu_in (List.mem_of_getElem? (i := 72) (by decide +kernel)) rfl
theorem u_73 : Cond.initialized RX0 ∈ gU := gu_in (List.mem_of_getElem? (i := 73) (by decide +kernel)) rfl
theorem u_74 : Cond.initialized RX8 ∈ gU := gu_in (List.mem_of_getElem? (i := 74) (by decide +kernel)) rfl
theorem u_75 : Cond.initialized RX12 ∈ gU := gu_in (List.mem_of_getElem? (i := 75) (by decide +kernel)) rfl
theorem u_76 : Cond.initialized RJ0 ∈ gU := gu_in (List.mem_of_getElem? (i := 76) (by decide +kernel)) rfl
theorem u_77 : Cond.initialized RJ1 ∈ gU := gu_in (List.mem_of_getElem? (i := 77) (by decide +kernel)) rfl
theorem u_78 : Cond.initialized RJ3 ∈ gU := gu_in (List.mem_of_getElem? (i := 78) (by decide +kernel)) rfl
theorem u_81 : Cond.initialized RX5 ∈ gU := gu_in (List.mem_of_getElem? (i := 81) (by decide +kernel)) rfl
theorem u_82 : Cond.initialized RX9 ∈ gU := gu_in (List.mem_of_getElem? (i := 82) (by decide +kernel)) rfl
theorem u_83 : Cond.initialized RX4 ∈ gU := gu_in (List.mem_of_getElem? (i := 83) (by decide +kernel)) rfl
theorem u_84 : Cond.initialized RX6 ∈ gU := gu_in (List.mem_of_getElem? (i := 84) (by decide +kernel)) rfl
theorem u_85 : Cond.initialized RX3 ∈ gU := gu_in (List.mem_of_getElem? (i := 85) (by decide +kernel)) rfl
theorem u_86 : Cond.initialized RX7 ∈ gU := gu_in (List.mem_of_getElem? (i := 86) (by decide +kernel)) rfl
theorem u_87 : Cond.initialized RJ6 ∈ gU := gu_in (List.mem_of_getElem? (i := 87) (by decide +kernel)) rfl
theorem u_88 : Cond.initialized "java/lang/System" ∈ gU := gu_in (List.mem_of_getElem? (i := 88) (by decide +kernel)) rfl
theorem u_112 : Cond.static Lib.Math.min.name ∈ gU := gu_in (List.mem_of_getElem? (i := 112) (by decide +kernel)) rfl
theorem u_113 : Cond.code Lib.Math.min.name Lib.Math.min.code 2 (some .int) ∈ gU := gu_in (List.mem_of_getElem? (i := 113) (by decide +kernel)) rfl
theorem u_115 : Cond.static Lib.Math.max.name ∈ gU := gu_in (List.mem_of_getElem? (i := 115) (by decide +kernel)) rfl
theorem u_116 : Cond.code Lib.Math.max.name Lib.Math.max.code 2 (some .int) ∈ gU := gu_in (List.mem_of_getElem? (i := 116) (by decide +kernel)) rfl
theorem u_117 : Cond.fieldLink RX2 7 "ChiefGrades$House" "five" "I" ∈ gU := gu_in (List.mem_of_getElem? (i := 117) (by decide +kernel)) rfl
theorem u_118 : Cond.fieldLink RX11 66 "ChiefGrades$House" "five" "I" ∈ gU := gu_in (List.mem_of_getElem? (i := 118) (by decide +kernel)) rfl
theorem u_119 : Cond.fieldLink RX1 126 "ChiefGrades$House" "five" "I" ∈ gU := gu_in (List.mem_of_getElem? (i := 119) (by decide +kernel)) rfl
theorem u_120 : Cond.fieldLink RX2 13 "ChiefGrades$House" "one" "I" ∈ gU := gu_in (List.mem_of_getElem? (i := 120) (by decide +kernel)) rfl
theorem u_121 : Cond.fieldLink RX11 69 "ChiefGrades$House" "one" "I" ∈ gU := gu_in (List.mem_of_getElem? (i := 121) (by decide +kernel)) rfl
theorem u_122 : Cond.fieldLink RX1 129 "ChiefGrades$House" "one" "I" ∈ gU := gu_in (List.mem_of_getElem? (i := 122) (by decide +kernel)) rfl
theorem u_123 : Cond.fieldLink RX2 16 "ChiefGrades$House" "pay" "I" ∈ gU := gu_in (List.mem_of_getElem? (i := 123) (by decide +kernel)) rfl
theorem u_124 : Cond.fieldLink RX11 72 "ChiefGrades$House" "pay" "I" ∈ gU := gu_in (List.mem_of_getElem? (i := 124) (by decide +kernel)) rfl
theorem u_125 : Cond.fieldLink RX2 19 "ChiefGrades$House" "text" "[C" ∈ gU := gu_in (List.mem_of_getElem? (i := 125) (by decide +kernel)) rfl
theorem u_126 : Cond.fieldLink RX2 32 "ChiefGrades$House" "size" "I" ∈ gU := gu_in (List.mem_of_getElem? (i := 126) (by decide +kernel)) rfl
theorem u_127 : Cond.fieldLink RX2 71 "ChiefGrades$House" "at" "I" ∈ gU := gu_in (List.mem_of_getElem? (i := 127) (by decide +kernel)) rfl
theorem u_128 : Cond.fieldLink RX2 67 "ChiefGrades$House" "isFaulty" "Z" ∈ gU := gu_in (List.mem_of_getElem? (i := 128) (by decide +kernel)) rfl
theorem u_129 : Cond.fieldLink RX2 35 "ChiefGrades$House" "step" "[I" ∈ gU := gu_in (List.mem_of_getElem? (i := 129) (by decide +kernel)) rfl
theorem u_130 : Cond.fieldLink RX2 39 "ChiefGrades$House" "least" "[I" ∈ gU := gu_in (List.mem_of_getElem? (i := 130) (by decide +kernel)) rfl
theorem u_131 : Cond.fieldLink RX2 42 "ChiefGrades$House" "most" "[I" ∈ gU := gu_in (List.mem_of_getElem? (i := 131) (by decide +kernel)) rfl
theorem u_132 : Cond.fieldLink RX2 78 "ChiefGrades$House" "steps" "I" ∈ gU := gu_in (List.mem_of_getElem? (i := 132) (by decide +kernel)) rfl
theorem u_158 : Cond.fieldLink RX10 62 "ChiefGrades$World" "workers" "I" ∈ gU := gu_in (List.mem_of_getElem? (i := 158) (by decide +kernel)) rfl
theorem u_159 : Cond.fieldLink RX1 112 "ChiefGrades$World" "workers" "I" ∈ gU := gu_in (List.mem_of_getElem? (i := 159) (by decide +kernel)) rfl
theorem u_160 : Cond.fieldLink RX11 105 "ChiefGrades$World" "workers" "I" ∈ gU := gu_in (List.mem_of_getElem? (i := 160) (by decide +kernel)) rfl
theorem u_161 : Cond.fieldLink RX10 65 "ChiefGrades$World" "chiefs" "I" ∈ gU := gu_in (List.mem_of_getElem? (i := 161) (by decide +kernel)) rfl
theorem u_162 : Cond.fieldLink RX1 87 "ChiefGrades$World" "chiefs" "I" ∈ gU := gu_in (List.mem_of_getElem? (i := 162) (by decide +kernel)) rfl
theorem u_163 : Cond.fieldLink RX11 88 "ChiefGrades$World" "chiefs" "I" ∈ gU := gu_in (List.mem_of_getElem? (i := 163) (by decide +kernel)) rfl
theorem u_164 : Cond.fieldLink RX10 68 "ChiefGrades$World" "houses" "I" ∈ gU := gu_in (List.mem_of_getElem? (i := 164) (by decide +kernel)) rfl
theorem u_165 : Cond.fieldLink RX11 50 "ChiefGrades$World" "houses" "I" ∈ gU := gu_in (List.mem_of_getElem? (i := 165) (by decide +kernel)) rfl
theorem u_166 : Cond.fieldLink RX10 71 "ChiefGrades$World" "rows" "I" ∈ gU := gu_in (List.mem_of_getElem? (i := 166) (by decide +kernel)) rfl
theorem u_167 : Cond.fieldLink RX11 207 "ChiefGrades$World" "rows" "I" ∈ gU := gu_in (List.mem_of_getElem? (i := 167) (by decide +kernel)) rfl
theorem u_168 : Cond.fieldLink RX11 42 "ChiefGrades$World" "signs" "I" ∈ gU := gu_in (List.mem_of_getElem? (i := 168) (by decide +kernel)) rfl
theorem u_169 : Cond.fieldLink RX10 74 "ChiefGrades$World" "signs" "I" ∈ gU := gu_in (List.mem_of_getElem? (i := 169) (by decide +kernel)) rfl
theorem u_170 : Cond.fieldLink RX10 77 "ChiefGrades$World" "year" "I" ∈ gU := gu_in (List.mem_of_getElem? (i := 170) (by decide +kernel)) rfl
theorem u_171 : Cond.fieldLink RX1 52 "ChiefGrades$World" "year" "I" ∈ gU := gu_in (List.mem_of_getElem? (i := 171) (by decide +kernel)) rfl
theorem u_172 : Cond.fieldLink RX11 75 "ChiefGrades$World" "year" "I" ∈ gU := gu_in (List.mem_of_getElem? (i := 172) (by decide +kernel)) rfl
theorem u_173 : Cond.fieldLink RX10 9 "ChiefGrades$World" "newWorth" "I" ∈ gU := gu_in (List.mem_of_getElem? (i := 173) (by decide +kernel)) rfl
theorem u_174 : Cond.fieldLink RX11 78 "ChiefGrades$World" "newWorth" "I" ∈ gU := gu_in (List.mem_of_getElem? (i := 174) (by decide +kernel)) rfl
theorem u_175 : Cond.fieldLink RX10 15 "ChiefGrades$World" "newLate" "I" ∈ gU := gu_in (List.mem_of_getElem? (i := 175) (by decide +kernel)) rfl
theorem u_176 : Cond.fieldLink RX11 81 "ChiefGrades$World" "newLate" "I" ∈ gU := gu_in (List.mem_of_getElem? (i := 176) (by decide +kernel)) rfl
theorem u_177 : Cond.fieldLink RX10 18 "ChiefGrades$World" "worth" "[I" ∈ gU := gu_in (List.mem_of_getElem? (i := 177) (by decide +kernel)) rfl
theorem u_178 : Cond.fieldLink RX1 49 "ChiefGrades$World" "worth" "[I" ∈ gU := gu_in (List.mem_of_getElem? (i := 178) (by decide +kernel)) rfl
theorem u_179 : Cond.fieldLink RX11 108 "ChiefGrades$World" "worth" "[I" ∈ gU := gu_in (List.mem_of_getElem? (i := 179) (by decide +kernel)) rfl
theorem u_180 : Cond.fieldLink RX10 22 "ChiefGrades$World" "late" "[I" ∈ gU := gu_in (List.mem_of_getElem? (i := 180) (by decide +kernel)) rfl
theorem u_181 : Cond.fieldLink RX1 64 "ChiefGrades$World" "late" "[I" ∈ gU := gu_in (List.mem_of_getElem? (i := 181) (by decide +kernel)) rfl
theorem u_182 : Cond.fieldLink RX11 111 "ChiefGrades$World" "late" "[I" ∈ gU := gu_in (List.mem_of_getElem? (i := 182) (by decide +kernel)) rfl
theorem u_183 : Cond.fieldLink RX10 25 "ChiefGrades$World" "chiefOf" "[I" ∈ gU := gu_in (List.mem_of_getElem? (i := 183) (by decide +kernel)) rfl
theorem u_184 : Cond.fieldLink RX1 98 "ChiefGrades$World" "chiefOf" "[I" ∈ gU := gu_in (List.mem_of_getElem? (i := 184) (by decide +kernel)) rfl
theorem u_185 : Cond.fieldLink RX11 114 "ChiefGrades$World" "chiefOf" "[I" ∈ gU := gu_in (List.mem_of_getElem? (i := 185) (by decide +kernel)) rfl
theorem u_186 : Cond.fieldLink RX10 28 "ChiefGrades$World" "desk" "[I" ∈ gU := gu_in (List.mem_of_getElem? (i := 186) (by decide +kernel)) rfl
theorem u_187 : Cond.fieldLink RX1 71 "ChiefGrades$World" "desk" "[I" ∈ gU := gu_in (List.mem_of_getElem? (i := 187) (by decide +kernel)) rfl
theorem u_188 : Cond.fieldLink RX11 117 "ChiefGrades$World" "desk" "[I" ∈ gU := gu_in (List.mem_of_getElem? (i := 188) (by decide +kernel)) rfl
theorem u_189 : Cond.fieldLink RX10 31 "ChiefGrades$World" "pay" "[I" ∈ gU := gu_in (List.mem_of_getElem? (i := 189) (by decide +kernel)) rfl
theorem u_190 : Cond.fieldLink RX11 120 "ChiefGrades$World" "pay" "[I" ∈ gU := gu_in (List.mem_of_getElem? (i := 190) (by decide +kernel)) rfl
theorem u_191 : Cond.fieldLink RX10 36 "ChiefGrades$World" "chief" "[LChiefGrades$Chief;" ∈ gU := gu_in (List.mem_of_getElem? (i := 191) (by decide +kernel)) rfl
theorem u_193 : Cond.fieldLink RX10 40 "ChiefGrades$World" "rowWorker" "[I" ∈ gU := gu_in (List.mem_of_getElem? (i := 193) (by decide +kernel)) rfl
theorem u_194 : Cond.fieldLink RX11 210 "ChiefGrades$World" "rowWorker" "[I" ∈ gU := gu_in (List.mem_of_getElem? (i := 194) (by decide +kernel)) rfl
theorem u_195 : Cond.fieldLink RX10 43 "ChiefGrades$World" "rowChief" "[I" ∈ gU := gu_in (List.mem_of_getElem? (i := 195) (by decide +kernel)) rfl
theorem u_196 : Cond.fieldLink RX11 213 "ChiefGrades$World" "rowChief" "[I" ∈ gU := gu_in (List.mem_of_getElem? (i := 196) (by decide +kernel)) rfl
theorem u_197 : Cond.fieldLink RX10 46 "ChiefGrades$World" "rowGrade" "[I" ∈ gU := gu_in (List.mem_of_getElem? (i := 197) (by decide +kernel)) rfl
theorem u_198 : Cond.fieldLink RX11 216 "ChiefGrades$World" "rowGrade" "[I" ∈ gU := gu_in (List.mem_of_getElem? (i := 198) (by decide +kernel)) rfl
theorem u_199 : Cond.fieldLink RX10 49 "ChiefGrades$World" "tape" "[C" ∈ gU := gu_in (List.mem_of_getElem? (i := 199) (by decide +kernel)) rfl
theorem u_200 : Cond.fieldLink RX11 46 "ChiefGrades$World" "tape" "[C" ∈ gU := gu_in (List.mem_of_getElem? (i := 200) (by decide +kernel)) rfl
theorem u_201 : Cond.fieldLink RX10 58 "ChiefGrades$World" "held" "LChiefGrades$House;" ∈ gU := gu_in (List.mem_of_getElem? (i := 201) (by decide +kernel)) rfl
theorem u_202 : Cond.fieldLink RX1 77 "ChiefGrades$World" "held" "LChiefGrades$House;" ∈ gU := gu_in (List.mem_of_getElem? (i := 202) (by decide +kernel)) rfl
theorem u_203 : Cond.fieldLink RX11 62 "ChiefGrades$World" "held" "LChiefGrades$House;" ∈ gU := gu_in (List.mem_of_getElem? (i := 203) (by decide +kernel)) rfl
theorem u_256 : Cond.fieldLink RX1 46 "ChiefGrades$Chief" "kind" "I" ∈ gU := gu_in (List.mem_of_getElem? (i := 256) (by decide +kernel)) rfl
theorem u_257 : Cond.fieldLink RX11 144 "ChiefGrades$Chief" "kind" "I" ∈ gU := gu_in (List.mem_of_getElem? (i := 257) (by decide +kernel)) rfl
theorem u_258 : Cond.fieldLink RX0 13 "ChiefGrades$Chief" "number" "I" ∈ gU := gu_in (List.mem_of_getElem? (i := 258) (by decide +kernel)) rfl
theorem u_259 : Cond.fieldLink RX1 42 "ChiefGrades$Chief" "number" "I" ∈ gU := gu_in (List.mem_of_getElem? (i := 259) (by decide +kernel)) rfl
theorem u_260 : Cond.fieldLink RX3 27 "ChiefGrades$Keeping" "number" "I" ∈ gU := gu_in (List.mem_of_getElem? (i := 260) (by decide +kernel)) rfl
theorem u_261 : Cond.sameField "ChiefGrades$Keeping" "ChiefGrades$Chief" "number" "I" ∈ gU := gu_in (List.mem_of_getElem? (i := 261) (by decide +kernel)) rfl
theorem u_262 : Cond.fieldLink RX11 178 "ChiefGrades$Chief" "number" "I" ∈ gU := gu_in (List.mem_of_getElem? (i := 262) (by decide +kernel)) rfl
theorem u_263 : Cond.fieldLink RX0 16 "ChiefGrades$Chief" "v" "I" ∈ gU := gu_in (List.mem_of_getElem? (i := 263) (by decide +kernel)) rfl
theorem u_264 : Cond.fieldLink RX5 7 "ChiefGrades$Lenient" "v" "I" ∈ gU := gu_in (List.mem_of_getElem? (i := 264) (by decide +kernel)) rfl
theorem u_265 : Cond.sameField "ChiefGrades$Lenient" "ChiefGrades$Chief" "v" "I" ∈ gU := gu_in (List.mem_of_getElem? (i := 265) (by decide +kernel)) rfl
theorem u_266 : Cond.fieldLink RX7 7 "ChiefGrades$Talking" "v" "I" ∈ gU := gu_in (List.mem_of_getElem? (i := 266) (by decide +kernel)) rfl
theorem u_267 : Cond.sameField "ChiefGrades$Talking" "ChiefGrades$Chief" "v" "I" ∈ gU := gu_in (List.mem_of_getElem? (i := 267) (by decide +kernel)) rfl
theorem u_268 : Cond.fieldLink RX4 7 "ChiefGrades$Lately" "v" "I" ∈ gU := gu_in (List.mem_of_getElem? (i := 268) (by decide +kernel)) rfl
theorem u_269 : Cond.sameField "ChiefGrades$Lately" "ChiefGrades$Chief" "v" "I" ∈ gU := gu_in (List.mem_of_getElem? (i := 269) (by decide +kernel)) rfl
theorem u_270 : Cond.fieldLink RX3 7 "ChiefGrades$Keeping" "v" "I" ∈ gU := gu_in (List.mem_of_getElem? (i := 270) (by decide +kernel)) rfl
theorem u_271 : Cond.sameField "ChiefGrades$Keeping" "ChiefGrades$Chief" "v" "I" ∈ gU := gu_in (List.mem_of_getElem? (i := 271) (by decide +kernel)) rfl
theorem u_272 : Cond.fieldLink RX11 147 "ChiefGrades$Chief" "v" "I" ∈ gU := gu_in (List.mem_of_getElem? (i := 272) (by decide +kernel)) rfl
theorem u_274 : Cond.fieldLink RX6 11 "ChiefGrades$Near" "desk" "I" ∈ gU := gu_in (List.mem_of_getElem? (i := 274) (by decide +kernel)) rfl
theorem u_275 : Cond.sameField "ChiefGrades$Near" "ChiefGrades$Chief" "desk" "I" ∈ gU := gu_in (List.mem_of_getElem? (i := 275) (by decide +kernel)) rfl
theorem u_276 : Cond.fieldLink RX11 150 "ChiefGrades$Chief" "desk" "I" ∈ gU := gu_in (List.mem_of_getElem? (i := 276) (by decide +kernel)) rfl
theorem u_286 : Cond.fieldLink RX1 9 "ChiefGrades$Grader" "grade" "[I" ∈ gU := gu_in (List.mem_of_getElem? (i := 286) (by decide +kernel)) rfl
theorem u_287 : Cond.fieldLink RX11 138 "ChiefGrades$Grader" "grade" "[I" ∈ gU := gu_in (List.mem_of_getElem? (i := 287) (by decide +kernel)) rfl
theorem u_288 : Cond.fieldLink RX1 15 "ChiefGrades$Grader" "mark" "[I" ∈ gU := gu_in (List.mem_of_getElem? (i := 288) (by decide +kernel)) rfl
theorem u_289 : Cond.fieldLink RX1 18 "ChiefGrades$Grader" "team" "[I" ∈ gU := gu_in (List.mem_of_getElem? (i := 289) (by decide +kernel)) rfl
theorem u_290 : Cond.fieldLink RX1 21 "ChiefGrades$Grader" "line" "[I" ∈ gU := gu_in (List.mem_of_getElem? (i := 290) (by decide +kernel)) rfl
theorem u_291 : Cond.fieldLink RX1 115 "ChiefGrades$Grader" "size" "I" ∈ gU := gu_in (List.mem_of_getElem? (i := 291) (by decide +kernel)) rfl
theorem u_292 : Cond.fieldLink RX1 24 "ChiefGrades$Grader" "facts" "[I" ∈ gU := gu_in (List.mem_of_getElem? (i := 292) (by decide +kernel)) rfl
theorem u_293 : Cond.fieldLink RX1 32 "ChiefGrades$Grader" "plain" "LChiefGrades$Chief;" ∈ gU := gu_in (List.mem_of_getElem? (i := 293) (by decide +kernel)) rfl
theorem u_315 : Cond.fieldLink RX8 9 "ChiefGrades$Trace" "first" "[I" ∈ gU := gu_in (List.mem_of_getElem? (i := 315) (by decide +kernel)) rfl
theorem u_316 : Cond.fieldLink RX11 241 "ChiefGrades$Trace" "first" "[I" ∈ gU := gu_in (List.mem_of_getElem? (i := 316) (by decide +kernel)) rfl
theorem u_317 : Cond.fieldLink RX8 15 "ChiefGrades$Trace" "bodies" "I" ∈ gU := gu_in (List.mem_of_getElem? (i := 317) (by decide +kernel)) rfl
theorem u_318 : Cond.fieldLink RX11 228 "ChiefGrades$Trace" "bodies" "I" ∈ gU := gu_in (List.mem_of_getElem? (i := 318) (by decide +kernel)) rfl
theorem u_324 : Cond.fieldLink RX11 12 "ChiefGrades" "now" "LChiefGrades$World;" ∈ gU := gu_in (List.mem_of_getElem? (i := 324) (by decide +kernel)) rfl
theorem u_325 : Cond.fieldLink RX11 18 "ChiefGrades" "trial" "LChiefGrades$World;" ∈ gU := gu_in (List.mem_of_getElem? (i := 325) (by decide +kernel)) rfl
theorem u_326 : Cond.fieldLink RX11 21 "ChiefGrades" "kept" "LChiefGrades$World;" ∈ gU := gu_in (List.mem_of_getElem? (i := 326) (by decide +kernel)) rfl
theorem u_327 : Cond.fieldLink RX11 27 "ChiefGrades" "grader" "LChiefGrades$Grader;" ∈ gU := gu_in (List.mem_of_getElem? (i := 327) (by decide +kernel)) rfl
theorem u_328 : Cond.fieldLink RX11 34 "ChiefGrades" "ran" "LChiefGrades$Trace;" ∈ gU := gu_in (List.mem_of_getElem? (i := 328) (by decide +kernel)) rfl
theorem u_329 : Cond.fieldLink RX11 38 "ChiefGrades" "before" "[I" ∈ gU := gu_in (List.mem_of_getElem? (i := 329) (by decide +kernel)) rfl
theorem u_330 : Cond.fieldLink RX11 247 "ChiefGrades" "hasImage" "Z" ∈ gU := gu_in (List.mem_of_getElem? (i := 330) (by decide +kernel)) rfl
theorem u_360 : Cond.methodLink RX2 45 yX2_sign ∈ gU := gu_in (List.mem_of_getElem? (i := 360) (by decide +kernel)) rfl
theorem u_362 : Cond.instanceMethod yX2_sign ∈ gU := gu_in (List.mem_of_getElem? (i := 362) (by decide +kernel)) rfl
theorem u_363 : Cond.code yX2_sign cX2_sign 1 (some .int) ∈ gU := gu_in (List.mem_of_getElem? (i := 363) (by decide +kernel)) rfl
theorem u_365 : Cond.methodLink RX2 51 yX2_readGain ∈ gU := gu_in (List.mem_of_getElem? (i := 365) (by decide +kernel)) rfl
theorem u_367 : Cond.instanceMethod yX2_readGain ∈ gU := gu_in (List.mem_of_getElem? (i := 367) (by decide +kernel)) rfl
theorem u_368 : Cond.code yX2_readGain cX2_readGain 4 none ∈ gU := gu_in (List.mem_of_getElem? (i := 368) (by decide +kernel)) rfl
theorem u_369 : Cond.methodLink RX2 81 yX2_takeAll ∈ gU := gu_in (List.mem_of_getElem? (i := 369) (by decide +kernel)) rfl
theorem u_371 : Cond.instanceMethod yX2_takeAll ∈ gU := gu_in (List.mem_of_getElem? (i := 371) (by decide +kernel)) rfl
theorem u_372 : Cond.code yX2_takeAll cX2_takeAll 3 none ∈ gU := gu_in (List.mem_of_getElem? (i := 372) (by decide +kernel)) rfl
theorem u_373 : Cond.methodLink RX2 110 yJ0_length_8abf5 ∈ gU := gu_in (List.mem_of_getElem? (i := 373) (by decide +kernel)) rfl
theorem u_374 : Cond.instanceMethod yJ0_length_8abf5 ∈ gU := gu_in (List.mem_of_getElem? (i := 374) (by decide +kernel)) rfl
theorem u_375 : Cond.selects RJ0 yJ0_length_8abf5 yJ0_length_8abf5 ∈ gU := gu_in (List.mem_of_getElem? (i := 375) (by decide +kernel)) rfl
theorem u_376 : Cond.code yJ0_length_8abf5 cJ0_length_8abf5 1 (some .int) ∈ gU := gu_in (List.mem_of_getElem? (i := 376) (by decide +kernel)) rfl
theorem u_377 : Cond.methodLink RJ0 335 yJ0_coder_7d493 ∈ gU := gu_in (List.mem_of_getElem? (i := 377) (by decide +kernel)) rfl
theorem u_378 : Cond.instanceMethod yJ0_coder_7d493 ∈ gU := gu_in (List.mem_of_getElem? (i := 378) (by decide +kernel)) rfl
theorem u_379 : Cond.selects RJ0 yJ0_coder_7d493 yJ0_coder_7d493 ∈ gU := gu_in (List.mem_of_getElem? (i := 379) (by decide +kernel)) rfl
theorem u_380 : Cond.code yJ0_coder_7d493 cJ0_coder_7d493 1 (some .byte) ∈ gU := gu_in (List.mem_of_getElem? (i := 380) (by decide +kernel)) rfl
theorem u_381 : Cond.fieldLink RJ0 38 "java/lang/String" "COMPACT_STRINGS" "Z" ∈ gU := gu_in (List.mem_of_getElem? (i := 381) (by decide +kernel)) rfl
theorem u_383 : Cond.methodLink RX2 113 yJ0_charAt_5068e ∈ gU := gu_in (List.mem_of_getElem? (i := 383) (by decide +kernel)) rfl
theorem u_384 : Cond.instanceMethod yJ0_charAt_5068e ∈ gU := gu_in (List.mem_of_getElem? (i := 384) (by decide +kernel)) rfl
theorem u_385 : Cond.selects RJ0 yJ0_charAt_5068e yJ0_charAt_5068e ∈ gU := gu_in (List.mem_of_getElem? (i := 385) (by decide +kernel)) rfl
theorem u_386 : Cond.code yJ0_charAt_5068e cJ0_charAt_5068e 2 (some .char) ∈ gU := gu_in (List.mem_of_getElem? (i := 386) (by decide +kernel)) rfl
theorem u_387 : Cond.methodLink RJ0 492 yJ0_isLatin1_aae02 ∈ gU := gu_in (List.mem_of_getElem? (i := 387) (by decide +kernel)) rfl
theorem u_388 : Cond.instanceMethod yJ0_isLatin1_aae02 ∈ gU := gu_in (List.mem_of_getElem? (i := 388) (by decide +kernel)) rfl
theorem u_389 : Cond.selects RJ0 yJ0_isLatin1_aae02 yJ0_isLatin1_aae02 ∈ gU := gu_in (List.mem_of_getElem? (i := 389) (by decide +kernel)) rfl
theorem u_390 : Cond.code yJ0_isLatin1_aae02 cJ0_isLatin1_aae02 1 (some .boolean) ∈ gU := gu_in (List.mem_of_getElem? (i := 390) (by decide +kernel)) rfl
theorem u_391 : Cond.methodLink RJ0 495 yJ1_charAt_3b067 ∈ gU := gu_in (List.mem_of_getElem? (i := 391) (by decide +kernel)) rfl
theorem u_392 : Cond.static yJ1_charAt_3b067 ∈ gU := gu_in (List.mem_of_getElem? (i := 392) (by decide +kernel)) rfl
theorem u_393 : Cond.code yJ1_charAt_3b067 cJ1_charAt_3b067 2 (some .char) ∈ gU := gu_in (List.mem_of_getElem? (i := 393) (by decide +kernel)) rfl
theorem u_394 : Cond.methodLink RJ1 9 yJ0_checkIndex_df160 ∈ gU := gu_in (List.mem_of_getElem? (i := 394) (by decide +kernel)) rfl
theorem u_395 : Cond.static yJ0_checkIndex_df160 ∈ gU := gu_in (List.mem_of_getElem? (i := 395) (by decide +kernel)) rfl
theorem u_396 : Cond.code yJ0_checkIndex_df160 cJ0_checkIndex_df160 2 none ∈ gU := gu_in (List.mem_of_getElem? (i := 396) (by decide +kernel)) rfl
theorem u_397 : Cond.fieldLink RJ0 1053 "jdk/internal/util/Preconditions" "SIOOBE_FORMATTER" "Ljava/util/function/BiFunction;" ∈ gU := gu_in (List.mem_of_getElem? (i := 397) (by decide +kernel)) rfl
theorem u_399 : Cond.methodLink RJ0 1059 yJ3_checkIndex_8e157 ∈ gU := gu_in (List.mem_of_getElem? (i := 399) (by decide +kernel)) rfl
theorem u_400 : Cond.static yJ3_checkIndex_8e157 ∈ gU := gu_in (List.mem_of_getElem? (i := 400) (by decide +kernel)) rfl
theorem u_401 : Cond.code yJ3_checkIndex_8e157 cJ3_checkIndex_8e157 3 (some .int) ∈ gU := gu_in (List.mem_of_getElem? (i := 401) (by decide +kernel)) rfl
theorem u_421 : Cond.methodLink RX2 74 yX2_take ∈ gU := gu_in (List.mem_of_getElem? (i := 421) (by decide +kernel)) rfl
theorem u_423 : Cond.instanceMethod yX2_take ∈ gU := gu_in (List.mem_of_getElem? (i := 423) (by decide +kernel)) rfl
theorem u_424 : Cond.code yX2_take cX2_take 2 (some .boolean) ∈ gU := gu_in (List.mem_of_getElem? (i := 424) (by decide +kernel)) rfl
theorem u_425 : Cond.methodLink RX2 85 yX2_readNumber ∈ gU := gu_in (List.mem_of_getElem? (i := 425) (by decide +kernel)) rfl
theorem u_427 : Cond.instanceMethod yX2_readNumber ∈ gU := gu_in (List.mem_of_getElem? (i := 427) (by decide +kernel)) rfl
theorem u_428 : Cond.code yX2_readNumber cX2_readNumber 3 (some .int) ∈ gU := gu_in (List.mem_of_getElem? (i := 428) (by decide +kernel)) rfl
theorem u_429 : Cond.methodLink RX2 88 yX2_readEither ∈ gU := gu_in (List.mem_of_getElem? (i := 429) (by decide +kernel)) rfl
theorem u_431 : Cond.instanceMethod yX2_readEither ∈ gU := gu_in (List.mem_of_getElem? (i := 431) (by decide +kernel)) rfl
theorem u_432 : Cond.code yX2_readEither cX2_readEither 3 none ∈ gU := gu_in (List.mem_of_getElem? (i := 432) (by decide +kernel)) rfl
theorem u_433 : Cond.methodLink RX2 96 yX2_readBoth ∈ gU := gu_in (List.mem_of_getElem? (i := 433) (by decide +kernel)) rfl
theorem u_435 : Cond.instanceMethod yX2_readBoth ∈ gU := gu_in (List.mem_of_getElem? (i := 435) (by decide +kernel)) rfl
theorem u_436 : Cond.code yX2_readBoth cX2_readBoth 3 none ∈ gU := gu_in (List.mem_of_getElem? (i := 436) (by decide +kernel)) rfl
theorem u_437 : Cond.methodLink RX2 99 yX2_readPart ∈ gU := gu_in (List.mem_of_getElem? (i := 437) (by decide +kernel)) rfl
theorem u_439 : Cond.instanceMethod yX2_readPart ∈ gU := gu_in (List.mem_of_getElem? (i := 439) (by decide +kernel)) rfl
theorem u_440 : Cond.code yX2_readPart cX2_readPart 6 none ∈ gU := gu_in (List.mem_of_getElem? (i := 440) (by decide +kernel)) rfl
theorem u_442 : Cond.methodLink RX2 104 yJ0_indexOf_0f7a4 ∈ gU := gu_in (List.mem_of_getElem? (i := 442) (by decide +kernel)) rfl
theorem u_443 : Cond.instanceMethod yJ0_indexOf_0f7a4 ∈ gU := gu_in (List.mem_of_getElem? (i := 443) (by decide +kernel)) rfl
theorem u_444 : Cond.selects RJ0 yJ0_indexOf_0f7a4 yJ0_indexOf_0f7a4 ∈ gU := gu_in (List.mem_of_getElem? (i := 444) (by decide +kernel)) rfl
theorem u_445 : Cond.code yJ0_indexOf_0f7a4 cJ0_indexOf_0f7a4 2 (some .int) ∈ gU := gu_in (List.mem_of_getElem? (i := 445) (by decide +kernel)) rfl
theorem u_446 : Cond.methodLink RJ0 633 yJ0_indexOf_7cf53 ∈ gU := gu_in (List.mem_of_getElem? (i := 446) (by decide +kernel)) rfl
theorem u_447 : Cond.instanceMethod yJ0_indexOf_7cf53 ∈ gU := gu_in (List.mem_of_getElem? (i := 447) (by decide +kernel)) rfl
theorem u_448 : Cond.selects RJ0 yJ0_indexOf_7cf53 yJ0_indexOf_7cf53 ∈ gU := gu_in (List.mem_of_getElem? (i := 448) (by decide +kernel)) rfl
theorem u_449 : Cond.code yJ0_indexOf_7cf53 cJ0_indexOf_7cf53 3 (some .int) ∈ gU := gu_in (List.mem_of_getElem? (i := 449) (by decide +kernel)) rfl
theorem u_450 : Cond.methodLink RJ0 505 yJ0_length_8abf5 ∈ gU := gu_in (List.mem_of_getElem? (i := 450) (by decide +kernel)) rfl
theorem u_451 : Cond.methodLink RJ0 637 yJ1_indexOf_4cfef ∈ gU := gu_in (List.mem_of_getElem? (i := 451) (by decide +kernel)) rfl
theorem u_452 : Cond.static yJ1_indexOf_4cfef ∈ gU := gu_in (List.mem_of_getElem? (i := 452) (by decide +kernel)) rfl
theorem u_453 : Cond.code yJ1_indexOf_4cfef cJ1_indexOf_4cfef 4 (some .int) ∈ gU := gu_in (List.mem_of_getElem? (i := 453) (by decide +kernel)) rfl
theorem u_454 : Cond.methodLink RJ1 88 yJ1_canEncode_9a6ad ∈ gU := gu_in (List.mem_of_getElem? (i := 454) (by decide +kernel)) rfl
theorem u_455 : Cond.static yJ1_canEncode_9a6ad ∈ gU := gu_in (List.mem_of_getElem? (i := 455) (by decide +kernel)) rfl
theorem u_456 : Cond.code yJ1_canEncode_9a6ad cJ1_canEncode_9a6ad 1 (some .boolean) ∈ gU := gu_in (List.mem_of_getElem? (i := 456) (by decide +kernel)) rfl
theorem u_457 : Cond.methodLink RJ1 92 Lib.Math.max.name ∈ gU := gu_in (List.mem_of_getElem? (i := 457) (by decide +kernel)) rfl
theorem u_458 : Cond.methodLink RJ1 38 Lib.Math.min.name ∈ gU := gu_in (List.mem_of_getElem? (i := 458) (by decide +kernel)) rfl
theorem u_459 : Cond.methodLink RJ1 95 yJ1_indexOfChar_4cfef ∈ gU := gu_in (List.mem_of_getElem? (i := 459) (by decide +kernel)) rfl
theorem u_460 : Cond.static yJ1_indexOfChar_4cfef ∈ gU := gu_in (List.mem_of_getElem? (i := 460) (by decide +kernel)) rfl
theorem u_461 : Cond.code yJ1_indexOfChar_4cfef cJ1_indexOfChar_4cfef 6 (some .int) ∈ gU := gu_in (List.mem_of_getElem? (i := 461) (by decide +kernel)) rfl
theorem u_497 : Cond.methodLink RX2 92 yX2_add ∈ gU := gu_in (List.mem_of_getElem? (i := 497) (by decide +kernel)) rfl
theorem u_499 : Cond.instanceMethod yX2_add ∈ gU := gu_in (List.mem_of_getElem? (i := 499) (by decide +kernel)) rfl
theorem u_500 : Cond.code yX2_add cX2_add 4 none ∈ gU := gu_in (List.mem_of_getElem? (i := 500) (by decide +kernel)) rfl
theorem u_503 : Cond.methodLink RX2 59 yX2_readShare ∈ gU := gu_in (List.mem_of_getElem? (i := 503) (by decide +kernel)) rfl
theorem u_505 : Cond.instanceMethod yX2_readShare ∈ gU := gu_in (List.mem_of_getElem? (i := 505) (by decide +kernel)) rfl
theorem u_506 : Cond.code yX2_readShare cX2_readShare 2 (some .int) ∈ gU := gu_in (List.mem_of_getElem? (i := 506) (by decide +kernel)) rfl
theorem u_518 : Cond.methodLink RX11 84 yX11_isWithin ∈ gU := gu_in (List.mem_of_getElem? (i := 518) (by decide +kernel)) rfl
theorem u_519 : Cond.static yX11_isWithin ∈ gU := gu_in (List.mem_of_getElem? (i := 519) (by decide +kernel)) rfl
theorem u_520 : Cond.code yX11_isWithin cX11_isWithin 2 (some .boolean) ∈ gU := gu_in (List.mem_of_getElem? (i := 520) (by decide +kernel)) rfl
theorem u_524 : Cond.classLink RX0 22 "ChiefGrades$Lenient" ∈ gU := gu_in (List.mem_of_getElem? (i := 524) (by decide +kernel)) rfl
theorem u_534 : Cond.superclass RX5 RX0 ∈ gU := gu_in (List.mem_of_getElem? (i := 534) (by decide +kernel)) rfl
theorem u_535 : Cond.classLink RX0 27 "ChiefGrades$Turning" ∈ gU := gu_in (List.mem_of_getElem? (i := 535) (by decide +kernel)) rfl
theorem u_545 : Cond.superclass RX9 RX0 ∈ gU := gu_in (List.mem_of_getElem? (i := 545) (by decide +kernel)) rfl
theorem u_546 : Cond.classLink RX0 30 "ChiefGrades$Lately" ∈ gU := gu_in (List.mem_of_getElem? (i := 546) (by decide +kernel)) rfl
theorem u_556 : Cond.superclass RX4 RX0 ∈ gU := gu_in (List.mem_of_getElem? (i := 556) (by decide +kernel)) rfl
theorem u_557 : Cond.classLink RX0 33 "ChiefGrades$Near" ∈ gU := gu_in (List.mem_of_getElem? (i := 557) (by decide +kernel)) rfl
theorem u_567 : Cond.superclass RX6 RX5 ∈ gU := gu_in (List.mem_of_getElem? (i := 567) (by decide +kernel)) rfl
theorem u_568 : Cond.classLink RX0 36 "ChiefGrades$Keeping" ∈ gU := gu_in (List.mem_of_getElem? (i := 568) (by decide +kernel)) rfl
theorem u_578 : Cond.superclass RX3 RX9 ∈ gU := gu_in (List.mem_of_getElem? (i := 578) (by decide +kernel)) rfl
theorem u_579 : Cond.classLink RX0 39 "ChiefGrades$Talking" ∈ gU := gu_in (List.mem_of_getElem? (i := 579) (by decide +kernel)) rfl
theorem u_589 : Cond.superclass RX7 RX4 ∈ gU := gu_in (List.mem_of_getElem? (i := 589) (by decide +kernel)) rfl
theorem u_596 : Cond.methodLink RX11 101 yX10_chiefAt ∈ gU := gu_in (List.mem_of_getElem? (i := 596) (by decide +kernel)) rfl
theorem u_597 : Cond.instanceMethod yX10_chiefAt ∈ gU := gu_in (List.mem_of_getElem? (i := 597) (by decide +kernel)) rfl
theorem u_598 : Cond.selects RX10 yX10_chiefAt yX10_chiefAt ∈ gU := gu_in (List.mem_of_getElem? (i := 598) (by decide +kernel)) rfl
theorem u_599 : Cond.code yX10_chiefAt cX10_chiefAt 2 (some (.object "ChiefGrades$Chief")) ∈ gU := gu_in (List.mem_of_getElem? (i := 599) (by decide +kernel)) rfl
theorem u_604 : Cond.methodLink RX11 122 yX10_hasWorker ∈ gU := gu_in (List.mem_of_getElem? (i := 604) (by decide +kernel)) rfl
theorem u_605 : Cond.instanceMethod yX10_hasWorker ∈ gU := gu_in (List.mem_of_getElem? (i := 605) (by decide +kernel)) rfl
theorem u_606 : Cond.selects RX10 yX10_hasWorker yX10_hasWorker ∈ gU := gu_in (List.mem_of_getElem? (i := 606) (by decide +kernel)) rfl
theorem u_607 : Cond.code yX10_hasWorker cX10_hasWorker 2 (some .boolean) ∈ gU := gu_in (List.mem_of_getElem? (i := 607) (by decide +kernel)) rfl
theorem u_608 : Cond.methodLink RX11 126 yX11_mark ∈ gU := gu_in (List.mem_of_getElem? (i := 608) (by decide +kernel)) rfl
theorem u_609 : Cond.instanceMethod yX11_mark ∈ gU := gu_in (List.mem_of_getElem? (i := 609) (by decide +kernel)) rfl
theorem u_610 : Cond.selects RX11 yX11_mark yX11_mark ∈ gU := gu_in (List.mem_of_getElem? (i := 610) (by decide +kernel)) rfl
theorem u_611 : Cond.code yX11_mark cX11_mark 4 (some .int) ∈ gU := gu_in (List.mem_of_getElem? (i := 611) (by decide +kernel)) rfl
theorem u_612 : Cond.methodLink RX11 161 yX1_markBy ∈ gU := gu_in (List.mem_of_getElem? (i := 612) (by decide +kernel)) rfl
theorem u_613 : Cond.instanceMethod yX1_markBy ∈ gU := gu_in (List.mem_of_getElem? (i := 613) (by decide +kernel)) rfl
theorem u_614 : Cond.selects RX1 yX1_markBy yX1_markBy ∈ gU := gu_in (List.mem_of_getElem? (i := 614) (by decide +kernel)) rfl
theorem u_615 : Cond.code yX1_markBy cX1_markBy 4 (some .int) ∈ gU := gu_in (List.mem_of_getElem? (i := 615) (by decide +kernel)) rfl
theorem u_616 : Cond.methodLink RX1 36 yX10_hasWorker ∈ gU := gu_in (List.mem_of_getElem? (i := 616) (by decide +kernel)) rfl
theorem u_617 : Cond.methodLink RX1 55 yX10_teamBits ∈ gU := gu_in (List.mem_of_getElem? (i := 617) (by decide +kernel)) rfl
theorem u_618 : Cond.instanceMethod yX10_teamBits ∈ gU := gu_in (List.mem_of_getElem? (i := 618) (by decide +kernel)) rfl
theorem u_619 : Cond.selects RX10 yX10_teamBits yX10_teamBits ∈ gU := gu_in (List.mem_of_getElem? (i := 619) (by decide +kernel)) rfl
theorem u_620 : Cond.code yX10_teamBits cX10_teamBits 4 (some .int) ∈ gU := gu_in (List.mem_of_getElem? (i := 620) (by decide +kernel)) rfl
theorem u_621 : Cond.methodLink RX1 59 yJ6_bitCount_0f7a4 ∈ gU := gu_in (List.mem_of_getElem? (i := 621) (by decide +kernel)) rfl
theorem u_622 : Cond.static yJ6_bitCount_0f7a4 ∈ gU := gu_in (List.mem_of_getElem? (i := 622) (by decide +kernel)) rfl
theorem u_623 : Cond.code yJ6_bitCount_0f7a4 cJ6_bitCount_0f7a4 1 (some .int) ∈ gU := gu_in (List.mem_of_getElem? (i := 623) (by decide +kernel)) rfl
theorem u_624 : Cond.constant RJ6 265 (1431655765) ∈ gU := gu_in (List.mem_of_getElem? (i := 624) (by decide +kernel)) rfl
theorem u_625 : Cond.constant RJ6 266 (858993459) ∈ gU := gu_in (List.mem_of_getElem? (i := 625) (by decide +kernel)) rfl
theorem u_626 : Cond.constant RJ6 267 (252645135) ∈ gU := gu_in (List.mem_of_getElem? (i := 626) (by decide +kernel)) rfl
theorem u_627 : Cond.methodLink RX1 67 yX0_seen ∈ gU := gu_in (List.mem_of_getElem? (i := 627) (by decide +kernel)) rfl
theorem u_628 : Cond.instanceMethod yX0_seen ∈ gU := gu_in (List.mem_of_getElem? (i := 628) (by decide +kernel)) rfl
theorem u_629 : Cond.selects RX0 yX0_seen yX0_seen ∈ gU := gu_in (List.mem_of_getElem? (i := 629) (by decide +kernel)) rfl
theorem u_630 : Cond.sameMethod "ChiefGrades$Chief" "ChiefGrades$Chief" "seen" "(II)I" ∈ gU := gu_in (List.mem_of_getElem? (i := 630) (by decide +kernel)) rfl
theorem u_631 : Cond.selects RX3 ⟨"ChiefGrades$Chief", "seen", "(II)I"⟩ yX0_seen ∈ gU := gu_in (List.mem_of_getElem? (i := 631) (by decide +kernel)) rfl
theorem u_632 : Cond.selects RX4 ⟨"ChiefGrades$Chief", "seen", "(II)I"⟩ yX4_seen ∈ gU := gu_in (List.mem_of_getElem? (i := 632) (by decide +kernel)) rfl
theorem u_633 : Cond.instanceMethod yX4_seen ∈ gU := gu_in (List.mem_of_getElem? (i := 633) (by decide +kernel)) rfl
theorem u_634 : Cond.code yX4_seen cX4_seen 3 (some .int) ∈ gU := gu_in (List.mem_of_getElem? (i := 634) (by decide +kernel)) rfl
theorem u_635 : Cond.selects RX5 ⟨"ChiefGrades$Chief", "seen", "(II)I"⟩ yX0_seen ∈ gU := gu_in (List.mem_of_getElem? (i := 635) (by decide +kernel)) rfl
theorem u_636 : Cond.selects RX6 ⟨"ChiefGrades$Chief", "seen", "(II)I"⟩ yX0_seen ∈ gU := gu_in (List.mem_of_getElem? (i := 636) (by decide +kernel)) rfl
theorem u_637 : Cond.selects RX7 ⟨"ChiefGrades$Chief", "seen", "(II)I"⟩ yX4_seen ∈ gU := gu_in (List.mem_of_getElem? (i := 637) (by decide +kernel)) rfl
theorem u_638 : Cond.selects RX9 ⟨"ChiefGrades$Chief", "seen", "(II)I"⟩ yX0_seen ∈ gU := gu_in (List.mem_of_getElem? (i := 638) (by decide +kernel)) rfl
theorem u_639 : Cond.code yX0_seen cX0_seen 3 (some .int) ∈ gU := gu_in (List.mem_of_getElem? (i := 639) (by decide +kernel)) rfl
theorem u_640 : Cond.methodLink RX1 74 yX0_favour ∈ gU := gu_in (List.mem_of_getElem? (i := 640) (by decide +kernel)) rfl
theorem u_641 : Cond.instanceMethod yX0_favour ∈ gU := gu_in (List.mem_of_getElem? (i := 641) (by decide +kernel)) rfl
theorem u_642 : Cond.selects RX0 yX0_favour yX0_favour ∈ gU := gu_in (List.mem_of_getElem? (i := 642) (by decide +kernel)) rfl
theorem u_643 : Cond.sameMethod "ChiefGrades$Chief" "ChiefGrades$Chief" "favour" "(I)I" ∈ gU := gu_in (List.mem_of_getElem? (i := 643) (by decide +kernel)) rfl
theorem u_644 : Cond.selects RX3 ⟨"ChiefGrades$Chief", "favour", "(I)I"⟩ yX0_favour ∈ gU := gu_in (List.mem_of_getElem? (i := 644) (by decide +kernel)) rfl
theorem u_645 : Cond.selects RX4 ⟨"ChiefGrades$Chief", "favour", "(I)I"⟩ yX0_favour ∈ gU := gu_in (List.mem_of_getElem? (i := 645) (by decide +kernel)) rfl
theorem u_646 : Cond.selects RX5 ⟨"ChiefGrades$Chief", "favour", "(I)I"⟩ yX5_favour ∈ gU := gu_in (List.mem_of_getElem? (i := 646) (by decide +kernel)) rfl
theorem u_647 : Cond.instanceMethod yX5_favour ∈ gU := gu_in (List.mem_of_getElem? (i := 647) (by decide +kernel)) rfl
theorem u_648 : Cond.code yX5_favour cX5_favour 2 (some .int) ∈ gU := gu_in (List.mem_of_getElem? (i := 648) (by decide +kernel)) rfl
theorem u_649 : Cond.selects RX6 ⟨"ChiefGrades$Chief", "favour", "(I)I"⟩ yX6_favour ∈ gU := gu_in (List.mem_of_getElem? (i := 649) (by decide +kernel)) rfl
theorem u_650 : Cond.instanceMethod yX6_favour ∈ gU := gu_in (List.mem_of_getElem? (i := 650) (by decide +kernel)) rfl
theorem u_651 : Cond.code yX6_favour cX6_favour 2 (some .int) ∈ gU := gu_in (List.mem_of_getElem? (i := 651) (by decide +kernel)) rfl
theorem u_652 : Cond.methodLink RX6 7 yX5_favour ∈ gU := gu_in (List.mem_of_getElem? (i := 652) (by decide +kernel)) rfl
theorem u_653 : Cond.methodLink RX6 17 Lib.Math.abs.name ∈ gU := gu_in (List.mem_of_getElem? (i := 653) (by decide +kernel)) rfl
theorem u_654 : Cond.static Lib.Math.abs.name ∈ gU := gu_in (List.mem_of_getElem? (i := 654) (by decide +kernel)) rfl
theorem u_655 : Cond.code Lib.Math.abs.name Lib.Math.abs.code 1 (some .int) ∈ gU := gu_in (List.mem_of_getElem? (i := 655) (by decide +kernel)) rfl
theorem u_656 : Cond.selects RX7 ⟨"ChiefGrades$Chief", "favour", "(I)I"⟩ yX7_favour ∈ gU := gu_in (List.mem_of_getElem? (i := 656) (by decide +kernel)) rfl
theorem u_657 : Cond.instanceMethod yX7_favour ∈ gU := gu_in (List.mem_of_getElem? (i := 657) (by decide +kernel)) rfl
theorem u_658 : Cond.code yX7_favour cX7_favour 2 (some .int) ∈ gU := gu_in (List.mem_of_getElem? (i := 658) (by decide +kernel)) rfl
theorem u_659 : Cond.selects RX9 ⟨"ChiefGrades$Chief", "favour", "(I)I"⟩ yX0_favour ∈ gU := gu_in (List.mem_of_getElem? (i := 659) (by decide +kernel)) rfl
theorem u_660 : Cond.code yX0_favour cX0_favour 2 (some .int) ∈ gU := gu_in (List.mem_of_getElem? (i := 660) (by decide +kernel)) rfl
theorem u_661 : Cond.methodLink RX1 81 yX2_raise ∈ gU := gu_in (List.mem_of_getElem? (i := 661) (by decide +kernel)) rfl
theorem u_662 : Cond.instanceMethod yX2_raise ∈ gU := gu_in (List.mem_of_getElem? (i := 662) (by decide +kernel)) rfl
theorem u_663 : Cond.selects RX2 yX2_raise yX2_raise ∈ gU := gu_in (List.mem_of_getElem? (i := 663) (by decide +kernel)) rfl
theorem u_664 : Cond.code yX2_raise cX2_raise 9 (some .int) ∈ gU := gu_in (List.mem_of_getElem? (i := 664) (by decide +kernel)) rfl
theorem u_665 : Cond.methodLink RX11 130 yX1_gradeHad ∈ gU := gu_in (List.mem_of_getElem? (i := 665) (by decide +kernel)) rfl
theorem u_666 : Cond.instanceMethod yX1_gradeHad ∈ gU := gu_in (List.mem_of_getElem? (i := 666) (by decide +kernel)) rfl
theorem u_667 : Cond.selects RX1 yX1_gradeHad yX1_gradeHad ∈ gU := gu_in (List.mem_of_getElem? (i := 667) (by decide +kernel)) rfl
theorem u_668 : Cond.code yX1_gradeHad cX1_gradeHad 4 (some .int) ∈ gU := gu_in (List.mem_of_getElem? (i := 668) (by decide +kernel)) rfl
theorem u_669 : Cond.methodLink RX1 90 yX10_chiefAt ∈ gU := gu_in (List.mem_of_getElem? (i := 669) (by decide +kernel)) rfl
theorem u_670 : Cond.methodLink RX1 94 yX1_gradeTeam ∈ gU := gu_in (List.mem_of_getElem? (i := 670) (by decide +kernel)) rfl
theorem u_671 : Cond.instanceMethod yX1_gradeTeam ∈ gU := gu_in (List.mem_of_getElem? (i := 671) (by decide +kernel)) rfl
theorem u_672 : Cond.selects RX1 yX1_gradeTeam yX1_gradeTeam ∈ gU := gu_in (List.mem_of_getElem? (i := 672) (by decide +kernel)) rfl
theorem u_673 : Cond.code yX1_gradeTeam cX1_gradeTeam 3 (some .int) ∈ gU := gu_in (List.mem_of_getElem? (i := 673) (by decide +kernel)) rfl
theorem u_674 : Cond.methodLink RX1 101 yX1_gather ∈ gU := gu_in (List.mem_of_getElem? (i := 674) (by decide +kernel)) rfl
theorem u_676 : Cond.instanceMethod yX1_gather ∈ gU := gu_in (List.mem_of_getElem? (i := 676) (by decide +kernel)) rfl
theorem u_677 : Cond.code yX1_gather cX1_gather 3 none ∈ gU := gu_in (List.mem_of_getElem? (i := 677) (by decide +kernel)) rfl
theorem u_678 : Cond.methodLink RX1 105 yX1_markTeam ∈ gU := gu_in (List.mem_of_getElem? (i := 678) (by decide +kernel)) rfl
theorem u_680 : Cond.instanceMethod yX1_markTeam ∈ gU := gu_in (List.mem_of_getElem? (i := 680) (by decide +kernel)) rfl
theorem u_681 : Cond.code yX1_markTeam cX1_markTeam 4 none ∈ gU := gu_in (List.mem_of_getElem? (i := 681) (by decide +kernel)) rfl
theorem u_682 : Cond.methodLink RX1 122 yX1_markBy ∈ gU := gu_in (List.mem_of_getElem? (i := 682) (by decide +kernel)) rfl
theorem u_683 : Cond.methodLink RX1 109 yX1_share ∈ gU := gu_in (List.mem_of_getElem? (i := 683) (by decide +kernel)) rfl
theorem u_685 : Cond.instanceMethod yX1_share ∈ gU := gu_in (List.mem_of_getElem? (i := 685) (by decide +kernel)) rfl
theorem u_686 : Cond.code yX1_share cX1_share 8 (some .int) ∈ gU := gu_in (List.mem_of_getElem? (i := 686) (by decide +kernel)) rfl
theorem u_687 : Cond.methodLink RX1 132 Lib.Math.min.name ∈ gU := gu_in (List.mem_of_getElem? (i := 687) (by decide +kernel)) rfl
theorem u_688 : Cond.methodLink RX1 137 yX1_rank ∈ gU := gu_in (List.mem_of_getElem? (i := 688) (by decide +kernel)) rfl
theorem u_690 : Cond.instanceMethod yX1_rank ∈ gU := gu_in (List.mem_of_getElem? (i := 690) (by decide +kernel)) rfl
theorem u_691 : Cond.code yX1_rank cX1_rank 6 none ∈ gU := gu_in (List.mem_of_getElem? (i := 691) (by decide +kernel)) rfl
theorem u_692 : Cond.methodLink RX1 140 yX1_byMark ∈ gU := gu_in (List.mem_of_getElem? (i := 692) (by decide +kernel)) rfl
theorem u_693 : Cond.static yX1_byMark ∈ gU := gu_in (List.mem_of_getElem? (i := 693) (by decide +kernel)) rfl
theorem u_694 : Cond.code yX1_byMark cX1_byMark 1 (some .int) ∈ gU := gu_in (List.mem_of_getElem? (i := 694) (by decide +kernel)) rfl
theorem u_695 : Cond.methodLink RX1 143 yX0_lineUp ∈ gU := gu_in (List.mem_of_getElem? (i := 695) (by decide +kernel)) rfl
theorem u_696 : Cond.instanceMethod yX0_lineUp ∈ gU := gu_in (List.mem_of_getElem? (i := 696) (by decide +kernel)) rfl
theorem u_697 : Cond.selects RX0 yX0_lineUp yX0_lineUp ∈ gU := gu_in (List.mem_of_getElem? (i := 697) (by decide +kernel)) rfl
theorem u_698 : Cond.sameMethod "ChiefGrades$Chief" "ChiefGrades$Chief" "lineUp" "([III[I)V" ∈ gU := gu_in (List.mem_of_getElem? (i := 698) (by decide +kernel)) rfl
theorem u_699 : Cond.selects RX3 ⟨"ChiefGrades$Chief", "lineUp", "([III[I)V"⟩ yX3_lineUp ∈ gU := gu_in (List.mem_of_getElem? (i := 699) (by decide +kernel)) rfl
theorem u_700 : Cond.instanceMethod yX3_lineUp ∈ gU := gu_in (List.mem_of_getElem? (i := 700) (by decide +kernel)) rfl
theorem u_701 : Cond.code yX3_lineUp cX3_lineUp 9 none ∈ gU := gu_in (List.mem_of_getElem? (i := 701) (by decide +kernel)) rfl
theorem u_702 : Cond.methodLink RX3 13 yX9_lineUp ∈ gU := gu_in (List.mem_of_getElem? (i := 702) (by decide +kernel)) rfl
theorem u_703 : Cond.instanceMethod yX9_lineUp ∈ gU := gu_in (List.mem_of_getElem? (i := 703) (by decide +kernel)) rfl
theorem u_704 : Cond.code yX9_lineUp cX9_lineUp 6 none ∈ gU := gu_in (List.mem_of_getElem? (i := 704) (by decide +kernel)) rfl
theorem u_705 : Cond.selects RX4 ⟨"ChiefGrades$Chief", "lineUp", "([III[I)V"⟩ yX0_lineUp ∈ gU := gu_in (List.mem_of_getElem? (i := 705) (by decide +kernel)) rfl
theorem u_706 : Cond.selects RX5 ⟨"ChiefGrades$Chief", "lineUp", "([III[I)V"⟩ yX0_lineUp ∈ gU := gu_in (List.mem_of_getElem? (i := 706) (by decide +kernel)) rfl
theorem u_707 : Cond.selects RX6 ⟨"ChiefGrades$Chief", "lineUp", "([III[I)V"⟩ yX0_lineUp ∈ gU := gu_in (List.mem_of_getElem? (i := 707) (by decide +kernel)) rfl
theorem u_708 : Cond.selects RX7 ⟨"ChiefGrades$Chief", "lineUp", "([III[I)V"⟩ yX0_lineUp ∈ gU := gu_in (List.mem_of_getElem? (i := 708) (by decide +kernel)) rfl
theorem u_709 : Cond.selects RX9 ⟨"ChiefGrades$Chief", "lineUp", "([III[I)V"⟩ yX9_lineUp ∈ gU := gu_in (List.mem_of_getElem? (i := 709) (by decide +kernel)) rfl
theorem u_710 : Cond.code yX0_lineUp cX0_lineUp 5 none ∈ gU := gu_in (List.mem_of_getElem? (i := 710) (by decide +kernel)) rfl
theorem u_711 : Cond.methodLink RX11 134 yX1_gradeDue ∈ gU := gu_in (List.mem_of_getElem? (i := 711) (by decide +kernel)) rfl
theorem u_712 : Cond.instanceMethod yX1_gradeDue ∈ gU := gu_in (List.mem_of_getElem? (i := 712) (by decide +kernel)) rfl
theorem u_713 : Cond.selects RX1 yX1_gradeDue yX1_gradeDue ∈ gU := gu_in (List.mem_of_getElem? (i := 713) (by decide +kernel)) rfl
theorem u_714 : Cond.code yX1_gradeDue cX1_gradeDue 3 none ∈ gU := gu_in (List.mem_of_getElem? (i := 714) (by decide +kernel)) rfl
theorem u_715 : Cond.methodLink RX11 141 yX1_gradeLevelled ∈ gU := gu_in (List.mem_of_getElem? (i := 715) (by decide +kernel)) rfl
theorem u_716 : Cond.instanceMethod yX1_gradeLevelled ∈ gU := gu_in (List.mem_of_getElem? (i := 716) (by decide +kernel)) rfl
theorem u_717 : Cond.selects RX1 yX1_gradeLevelled yX1_gradeLevelled ∈ gU := gu_in (List.mem_of_getElem? (i := 717) (by decide +kernel)) rfl
theorem u_718 : Cond.code yX1_gradeLevelled cX1_gradeLevelled 7 none ∈ gU := gu_in (List.mem_of_getElem? (i := 718) (by decide +kernel)) rfl
theorem u_719 : Cond.methodLink RX1 118 yX1_meanOfTeam ∈ gU := gu_in (List.mem_of_getElem? (i := 719) (by decide +kernel)) rfl
theorem u_721 : Cond.instanceMethod yX1_meanOfTeam ∈ gU := gu_in (List.mem_of_getElem? (i := 721) (by decide +kernel)) rfl
theorem u_722 : Cond.code yX1_meanOfTeam cX1_meanOfTeam 3 (some .int) ∈ gU := gu_in (List.mem_of_getElem? (i := 722) (by decide +kernel)) rfl
theorem u_727 : Cond.methodLink RX11 152 yX10_teamBits ∈ gU := gu_in (List.mem_of_getElem? (i := 727) (by decide +kernel)) rfl
theorem u_728 : Cond.methodLink RX11 156 yJ6_bitCount_0f7a4 ∈ gU := gu_in (List.mem_of_getElem? (i := 728) (by decide +kernel)) rfl
theorem u_746 : Cond.methodLink RX11 165 arraycopyName ∈ gU := gu_in (List.mem_of_getElem? (i := 746) (by decide +kernel)) rfl
theorem u_747 : Cond.static arraycopyName ∈ gU := gu_in (List.mem_of_getElem? (i := 747) (by decide +kernel)) rfl
theorem u_748 : Cond.native arraycopyName ∈ gU := gu_in (List.mem_of_getElem? (i := 748) (by decide +kernel)) rfl
theorem u_749 : Cond.methodLink RX11 171 yX1_gradeAll ∈ gU := gu_in (List.mem_of_getElem? (i := 749) (by decide +kernel)) rfl
theorem u_750 : Cond.instanceMethod yX1_gradeAll ∈ gU := gu_in (List.mem_of_getElem? (i := 750) (by decide +kernel)) rfl
theorem u_751 : Cond.selects RX1 yX1_gradeAll yX1_gradeAll ∈ gU := gu_in (List.mem_of_getElem? (i := 751) (by decide +kernel)) rfl
theorem u_752 : Cond.code yX1_gradeAll cX1_gradeAll 4 none ∈ gU := gu_in (List.mem_of_getElem? (i := 752) (by decide +kernel)) rfl
theorem u_757 : Cond.methodLink RX11 174 yX11_gradeUnder ∈ gU := gu_in (List.mem_of_getElem? (i := 757) (by decide +kernel)) rfl
theorem u_759 : Cond.instanceMethod yX11_gradeUnder ∈ gU := gu_in (List.mem_of_getElem? (i := 759) (by decide +kernel)) rfl
theorem u_760 : Cond.code yX11_gradeUnder cX11_gradeUnder 3 (some .int) ∈ gU := gu_in (List.mem_of_getElem? (i := 760) (by decide +kernel)) rfl
theorem u_761 : Cond.methodLink RX11 185 yX10_become ∈ gU := gu_in (List.mem_of_getElem? (i := 761) (by decide +kernel)) rfl
theorem u_762 : Cond.instanceMethod yX10_become ∈ gU := gu_in (List.mem_of_getElem? (i := 762) (by decide +kernel)) rfl
theorem u_763 : Cond.selects RX10 yX10_become yX10_become ∈ gU := gu_in (List.mem_of_getElem? (i := 763) (by decide +kernel)) rfl
theorem u_764 : Cond.code yX10_become cX10_become 3 none ∈ gU := gu_in (List.mem_of_getElem? (i := 764) (by decide +kernel)) rfl
theorem u_765 : Cond.methodLink RX10 80 arraycopyName ∈ gU := gu_in (List.mem_of_getElem? (i := 765) (by decide +kernel)) rfl
theorem u_779 : Cond.methodLink RX11 188 yX11_bothGain ∈ gU := gu_in (List.mem_of_getElem? (i := 779) (by decide +kernel)) rfl
theorem u_781 : Cond.instanceMethod yX11_bothGain ∈ gU := gu_in (List.mem_of_getElem? (i := 781) (by decide +kernel)) rfl
theorem u_782 : Cond.code yX11_bothGain cX11_bothGain 4 (some .boolean) ∈ gU := gu_in (List.mem_of_getElem? (i := 782) (by decide +kernel)) rfl
theorem u_783 : Cond.methodLink RX11 251 yX10_exchange ∈ gU := gu_in (List.mem_of_getElem? (i := 783) (by decide +kernel)) rfl
theorem u_784 : Cond.instanceMethod yX10_exchange ∈ gU := gu_in (List.mem_of_getElem? (i := 784) (by decide +kernel)) rfl
theorem u_785 : Cond.selects RX10 yX10_exchange yX10_exchange ∈ gU := gu_in (List.mem_of_getElem? (i := 785) (by decide +kernel)) rfl
theorem u_786 : Cond.code yX10_exchange cX10_exchange 5 none ∈ gU := gu_in (List.mem_of_getElem? (i := 786) (by decide +kernel)) rfl
theorem u_791 : Cond.methodLink RX11 191 yX11_goYear ∈ gU := gu_in (List.mem_of_getElem? (i := 791) (by decide +kernel)) rfl
theorem u_793 : Cond.instanceMethod yX11_goYear ∈ gU := gu_in (List.mem_of_getElem? (i := 793) (by decide +kernel)) rfl
theorem u_794 : Cond.code yX11_goYear cX11_goYear 6 (some .int) ∈ gU := gu_in (List.mem_of_getElem? (i := 794) (by decide +kernel)) rfl
theorem u_795 : Cond.methodLink RX11 255 Lib.Math.min.name ∈ gU := gu_in (List.mem_of_getElem? (i := 795) (by decide +kernel)) rfl
theorem u_796 : Cond.methodLink RX11 260 yX11_outByLot ∈ gU := gu_in (List.mem_of_getElem? (i := 796) (by decide +kernel)) rfl
theorem u_797 : Cond.static yX11_outByLot ∈ gU := gu_in (List.mem_of_getElem? (i := 797) (by decide +kernel)) rfl
theorem u_798 : Cond.code yX11_outByLot cX11_outByLot 3 none ∈ gU := gu_in (List.mem_of_getElem? (i := 798) (by decide +kernel)) rfl
theorem u_799 : Cond.methodLink RX11 267 yX10_replace ∈ gU := gu_in (List.mem_of_getElem? (i := 799) (by decide +kernel)) rfl
theorem u_800 : Cond.instanceMethod yX10_replace ∈ gU := gu_in (List.mem_of_getElem? (i := 800) (by decide +kernel)) rfl
theorem u_801 : Cond.selects RX10 yX10_replace yX10_replace ∈ gU := gu_in (List.mem_of_getElem? (i := 801) (by decide +kernel)) rfl
theorem u_802 : Cond.code yX10_replace cX10_replace 2 none ∈ gU := gu_in (List.mem_of_getElem? (i := 802) (by decide +kernel)) rfl
theorem u_803 : Cond.methodLink RX10 86 yX10_hasWorker ∈ gU := gu_in (List.mem_of_getElem? (i := 803) (by decide +kernel)) rfl
theorem u_804 : Cond.methodLink RX11 264 yX11_outByGrade ∈ gU := gu_in (List.mem_of_getElem? (i := 804) (by decide +kernel)) rfl
theorem u_806 : Cond.instanceMethod yX11_outByGrade ∈ gU := gu_in (List.mem_of_getElem? (i := 806) (by decide +kernel)) rfl
theorem u_807 : Cond.code yX11_outByGrade cX11_outByGrade 3 none ∈ gU := gu_in (List.mem_of_getElem? (i := 807) (by decide +kernel)) rfl
theorem u_812 : Cond.methodLink RX11 194 yX10_worthTogether ∈ gU := gu_in (List.mem_of_getElem? (i := 812) (by decide +kernel)) rfl
theorem u_813 : Cond.instanceMethod yX10_worthTogether ∈ gU := gu_in (List.mem_of_getElem? (i := 813) (by decide +kernel)) rfl
theorem u_814 : Cond.selects RX10 yX10_worthTogether yX10_worthTogether ∈ gU := gu_in (List.mem_of_getElem? (i := 814) (by decide +kernel)) rfl
theorem u_815 : Cond.code yX10_worthTogether cX10_worthTogether 3 (some .int) ∈ gU := gu_in (List.mem_of_getElem? (i := 815) (by decide +kernel)) rfl
theorem u_820 : Cond.constantLong RX11 197 (-9223372036854775808) ∈ gU := gu_in (List.mem_of_getElem? (i := 820) (by decide +kernel)) rfl
theorem u_821 : Cond.methodLink RX11 199 yX11_choices ∈ gU := gu_in (List.mem_of_getElem? (i := 821) (by decide +kernel)) rfl
theorem u_822 : Cond.static yX11_choices ∈ gU := gu_in (List.mem_of_getElem? (i := 822) (by decide +kernel)) rfl
theorem u_823 : Cond.code yX11_choices cX11_choices 5 (some .long) ∈ gU := gu_in (List.mem_of_getElem? (i := 823) (by decide +kernel)) rfl
theorem u_824 : Cond.methodLink RX11 203 yX11_lowest ∈ gU := gu_in (List.mem_of_getElem? (i := 824) (by decide +kernel)) rfl
theorem u_825 : Cond.static yX11_lowest ∈ gU := gu_in (List.mem_of_getElem? (i := 825) (by decide +kernel)) rfl
theorem u_826 : Cond.code yX11_lowest cX11_lowest 12 (some .long) ∈ gU := gu_in (List.mem_of_getElem? (i := 826) (by decide +kernel)) rfl
theorem u_827 : Cond.methodLink RX11 271 Lib.MathLoose.abs_long.x ∈ gU := gu_in (List.mem_of_getElem? (i := 827) (by decide +kernel)) rfl
theorem u_828 : Cond.static Lib.MathLoose.abs_long.x ∈ gU := gu_in (List.mem_of_getElem? (i := 828) (by decide +kernel)) rfl
theorem u_829 : Cond.code Lib.MathLoose.abs_long.x Lib.MathLoose.abs_long.code 2 (some .long) ∈ gU := gu_in (List.mem_of_getElem? (i := 829) (by decide +kernel)) rfl
theorem u_842 : Cond.methodLink RX11 219 yX11_howManyNets ∈ gU := gu_in (List.mem_of_getElem? (i := 842) (by decide +kernel)) rfl
theorem u_844 : Cond.instanceMethod yX11_howManyNets ∈ gU := gu_in (List.mem_of_getElem? (i := 844) (by decide +kernel)) rfl
theorem u_845 : Cond.code yX11_howManyNets cX11_howManyNets 4 (some .int) ∈ gU := gu_in (List.mem_of_getElem? (i := 845) (by decide +kernel)) rfl
theorem u_846 : Cond.methodLink RX11 222 yX11_netOf ∈ gU := gu_in (List.mem_of_getElem? (i := 846) (by decide +kernel)) rfl
theorem u_848 : Cond.instanceMethod yX11_netOf ∈ gU := gu_in (List.mem_of_getElem? (i := 848) (by decide +kernel)) rfl
theorem u_849 : Cond.code yX11_netOf cX11_netOf 4 (some .int) ∈ gU := gu_in (List.mem_of_getElem? (i := 849) (by decide +kernel)) rfl
theorem u_850 : Cond.methodLink RX11 275 yX11_neighbours ∈ gU := gu_in (List.mem_of_getElem? (i := 850) (by decide +kernel)) rfl
theorem u_852 : Cond.instanceMethod yX11_neighbours ∈ gU := gu_in (List.mem_of_getElem? (i := 852) (by decide +kernel)) rfl
theorem u_853 : Cond.code yX11_neighbours cX11_neighbours 5 (some .int) ∈ gU := gu_in (List.mem_of_getElem? (i := 853) (by decide +kernel)) rfl
theorem u_858 : Cond.methodLink RX11 225 yX10_firstGrade ∈ gU := gu_in (List.mem_of_getElem? (i := 858) (by decide +kernel)) rfl
theorem u_859 : Cond.instanceMethod yX10_firstGrade ∈ gU := gu_in (List.mem_of_getElem? (i := 859) (by decide +kernel)) rfl
theorem u_860 : Cond.selects RX10 yX10_firstGrade yX10_firstGrade ∈ gU := gu_in (List.mem_of_getElem? (i := 860) (by decide +kernel)) rfl
theorem u_861 : Cond.code yX10_firstGrade cX10_firstGrade 4 (some .int) ∈ gU := gu_in (List.mem_of_getElem? (i := 861) (by decide +kernel)) rfl
theorem u_870 : Cond.methodLink RX11 231 yX0_works ∈ gU := gu_in (List.mem_of_getElem? (i := 870) (by decide +kernel)) rfl
theorem u_871 : Cond.instanceMethod yX0_works ∈ gU := gu_in (List.mem_of_getElem? (i := 871) (by decide +kernel)) rfl
theorem u_872 : Cond.selects RX0 yX0_works yX0_works ∈ gU := gu_in (List.mem_of_getElem? (i := 872) (by decide +kernel)) rfl
theorem u_873 : Cond.sameMethod "ChiefGrades$Chief" "ChiefGrades$Chief" "works" "(ILChiefGrades$Trace;)I" ∈ gU := gu_in (List.mem_of_getElem? (i := 873) (by decide +kernel)) rfl
theorem u_874 : Cond.selects RX3 ⟨"ChiefGrades$Chief", "works", "(ILChiefGrades$Trace;)I"⟩ yX3_works ∈ gU := gu_in (List.mem_of_getElem? (i := 874) (by decide +kernel)) rfl
theorem u_875 : Cond.instanceMethod yX3_works ∈ gU := gu_in (List.mem_of_getElem? (i := 875) (by decide +kernel)) rfl
theorem u_876 : Cond.code yX3_works cX3_works 3 (some .int) ∈ gU := gu_in (List.mem_of_getElem? (i := 876) (by decide +kernel)) rfl
theorem u_877 : Cond.methodLink RX3 17 yX8_begin ∈ gU := gu_in (List.mem_of_getElem? (i := 877) (by decide +kernel)) rfl
theorem u_878 : Cond.instanceMethod yX8_begin ∈ gU := gu_in (List.mem_of_getElem? (i := 878) (by decide +kernel)) rfl
theorem u_879 : Cond.selects RX8 yX8_begin yX8_begin ∈ gU := gu_in (List.mem_of_getElem? (i := 879) (by decide +kernel)) rfl
theorem u_880 : Cond.code yX8_begin cX8_begin 2 none ∈ gU := gu_in (List.mem_of_getElem? (i := 880) (by decide +kernel)) rfl
theorem u_881 : Cond.methodLink RX3 23 ⟨"ChiefGrades$Turning", "works", "(ILChiefGrades$Trace;)I"⟩ ∈ gU := gu_in (List.mem_of_getElem? (i := 881) (by decide +kernel)) rfl
theorem u_882 : Cond.sameMethod "ChiefGrades$Turning" "ChiefGrades$Chief" "works" "(ILChiefGrades$Trace;)I" ∈ gU := gu_in (List.mem_of_getElem? (i := 882) (by decide +kernel)) rfl
theorem u_884 : Cond.selects RX4 ⟨"ChiefGrades$Chief", "works", "(ILChiefGrades$Trace;)I"⟩ yX0_works ∈ gU := gu_in (List.mem_of_getElem? (i := 884) (by decide +kernel)) rfl
theorem u_885 : Cond.selects RX5 ⟨"ChiefGrades$Chief", "works", "(ILChiefGrades$Trace;)I"⟩ yX5_works ∈ gU := gu_in (List.mem_of_getElem? (i := 885) (by decide +kernel)) rfl
theorem u_886 : Cond.instanceMethod yX5_works ∈ gU := gu_in (List.mem_of_getElem? (i := 886) (by decide +kernel)) rfl
theorem u_887 : Cond.code yX5_works cX5_works 3 (some .int) ∈ gU := gu_in (List.mem_of_getElem? (i := 887) (by decide +kernel)) rfl
theorem u_888 : Cond.methodLink RX5 13 yX8_begin ∈ gU := gu_in (List.mem_of_getElem? (i := 888) (by decide +kernel)) rfl
theorem u_889 : Cond.methodLink RX5 19 yX0_works ∈ gU := gu_in (List.mem_of_getElem? (i := 889) (by decide +kernel)) rfl
theorem u_890 : Cond.selects RX6 ⟨"ChiefGrades$Chief", "works", "(ILChiefGrades$Trace;)I"⟩ yX5_works ∈ gU := gu_in (List.mem_of_getElem? (i := 890) (by decide +kernel)) rfl
theorem u_891 : Cond.selects RX7 ⟨"ChiefGrades$Chief", "works", "(ILChiefGrades$Trace;)I"⟩ yX0_works ∈ gU := gu_in (List.mem_of_getElem? (i := 891) (by decide +kernel)) rfl
theorem u_892 : Cond.selects RX9 ⟨"ChiefGrades$Chief", "works", "(ILChiefGrades$Trace;)I"⟩ yX0_works ∈ gU := gu_in (List.mem_of_getElem? (i := 892) (by decide +kernel)) rfl
theorem u_893 : Cond.code yX0_works cX0_works 3 (some .int) ∈ gU := gu_in (List.mem_of_getElem? (i := 893) (by decide +kernel)) rfl
theorem u_894 : Cond.methodLink RX0 43 yX8_begin ∈ gU := gu_in (List.mem_of_getElem? (i := 894) (by decide +kernel)) rfl
theorem u_895 : Cond.methodLink RX11 235 yX0_grades ∈ gU := gu_in (List.mem_of_getElem? (i := 895) (by decide +kernel)) rfl
theorem u_896 : Cond.instanceMethod yX0_grades ∈ gU := gu_in (List.mem_of_getElem? (i := 896) (by decide +kernel)) rfl
theorem u_897 : Cond.selects RX0 yX0_grades yX0_grades ∈ gU := gu_in (List.mem_of_getElem? (i := 897) (by decide +kernel)) rfl
theorem u_898 : Cond.sameMethod "ChiefGrades$Chief" "ChiefGrades$Chief" "grades" "(ILChiefGrades$Trace;)I" ∈ gU := gu_in (List.mem_of_getElem? (i := 898) (by decide +kernel)) rfl
theorem u_899 : Cond.selects RX3 ⟨"ChiefGrades$Chief", "grades", "(ILChiefGrades$Trace;)I"⟩ yX9_grades ∈ gU := gu_in (List.mem_of_getElem? (i := 899) (by decide +kernel)) rfl
theorem u_900 : Cond.instanceMethod yX9_grades ∈ gU := gu_in (List.mem_of_getElem? (i := 900) (by decide +kernel)) rfl
theorem u_901 : Cond.code yX9_grades cX9_grades 3 (some .int) ∈ gU := gu_in (List.mem_of_getElem? (i := 901) (by decide +kernel)) rfl
theorem u_902 : Cond.methodLink RX9 7 yX8_begin ∈ gU := gu_in (List.mem_of_getElem? (i := 902) (by decide +kernel)) rfl
theorem u_903 : Cond.methodLink RX9 13 yX0_grades ∈ gU := gu_in (List.mem_of_getElem? (i := 903) (by decide +kernel)) rfl
theorem u_904 : Cond.selects RX4 ⟨"ChiefGrades$Chief", "grades", "(ILChiefGrades$Trace;)I"⟩ yX0_grades ∈ gU := gu_in (List.mem_of_getElem? (i := 904) (by decide +kernel)) rfl
theorem u_905 : Cond.selects RX5 ⟨"ChiefGrades$Chief", "grades", "(ILChiefGrades$Trace;)I"⟩ yX0_grades ∈ gU := gu_in (List.mem_of_getElem? (i := 905) (by decide +kernel)) rfl
theorem u_906 : Cond.selects RX6 ⟨"ChiefGrades$Chief", "grades", "(ILChiefGrades$Trace;)I"⟩ yX0_grades ∈ gU := gu_in (List.mem_of_getElem? (i := 906) (by decide +kernel)) rfl
theorem u_907 : Cond.selects RX7 ⟨"ChiefGrades$Chief", "grades", "(ILChiefGrades$Trace;)I"⟩ yX7_grades ∈ gU := gu_in (List.mem_of_getElem? (i := 907) (by decide +kernel)) rfl
theorem u_908 : Cond.instanceMethod yX7_grades ∈ gU := gu_in (List.mem_of_getElem? (i := 908) (by decide +kernel)) rfl
theorem u_909 : Cond.code yX7_grades cX7_grades 3 (some .int) ∈ gU := gu_in (List.mem_of_getElem? (i := 909) (by decide +kernel)) rfl
theorem u_910 : Cond.methodLink RX7 13 yX8_begin ∈ gU := gu_in (List.mem_of_getElem? (i := 910) (by decide +kernel)) rfl
theorem u_911 : Cond.methodLink RX7 19 ⟨"ChiefGrades$Lately", "grades", "(ILChiefGrades$Trace;)I"⟩ ∈ gU := gu_in (List.mem_of_getElem? (i := 911) (by decide +kernel)) rfl
theorem u_912 : Cond.sameMethod "ChiefGrades$Lately" "ChiefGrades$Chief" "grades" "(ILChiefGrades$Trace;)I" ∈ gU := gu_in (List.mem_of_getElem? (i := 912) (by decide +kernel)) rfl
theorem u_914 : Cond.selects RX9 ⟨"ChiefGrades$Chief", "grades", "(ILChiefGrades$Trace;)I"⟩ yX9_grades ∈ gU := gu_in (List.mem_of_getElem? (i := 914) (by decide +kernel)) rfl
theorem u_915 : Cond.code yX0_grades cX0_grades 3 (some .int) ∈ gU := gu_in (List.mem_of_getElem? (i := 915) (by decide +kernel)) rfl
theorem u_916 : Cond.methodLink RX0 49 yX0_works ∈ gU := gu_in (List.mem_of_getElem? (i := 916) (by decide +kernel)) rfl
theorem u_917 : Cond.methodLink RX11 238 yX0_levels ∈ gU := gu_in (List.mem_of_getElem? (i := 917) (by decide +kernel)) rfl
theorem u_918 : Cond.instanceMethod yX0_levels ∈ gU := gu_in (List.mem_of_getElem? (i := 918) (by decide +kernel)) rfl
theorem u_919 : Cond.selects RX0 yX0_levels yX0_levels ∈ gU := gu_in (List.mem_of_getElem? (i := 919) (by decide +kernel)) rfl
theorem u_920 : Cond.sameMethod "ChiefGrades$Chief" "ChiefGrades$Chief" "levels" "(ILChiefGrades$Trace;)I" ∈ gU := gu_in (List.mem_of_getElem? (i := 920) (by decide +kernel)) rfl
theorem u_921 : Cond.selects RX3 ⟨"ChiefGrades$Chief", "levels", "(ILChiefGrades$Trace;)I"⟩ yX0_levels ∈ gU := gu_in (List.mem_of_getElem? (i := 921) (by decide +kernel)) rfl
theorem u_922 : Cond.selects RX4 ⟨"ChiefGrades$Chief", "levels", "(ILChiefGrades$Trace;)I"⟩ yX4_levels ∈ gU := gu_in (List.mem_of_getElem? (i := 922) (by decide +kernel)) rfl
theorem u_923 : Cond.instanceMethod yX4_levels ∈ gU := gu_in (List.mem_of_getElem? (i := 923) (by decide +kernel)) rfl
theorem u_924 : Cond.code yX4_levels cX4_levels 3 (some .int) ∈ gU := gu_in (List.mem_of_getElem? (i := 924) (by decide +kernel)) rfl
theorem u_925 : Cond.methodLink RX4 13 yX8_begin ∈ gU := gu_in (List.mem_of_getElem? (i := 925) (by decide +kernel)) rfl
theorem u_926 : Cond.methodLink RX4 19 yX0_levels ∈ gU := gu_in (List.mem_of_getElem? (i := 926) (by decide +kernel)) rfl
theorem u_927 : Cond.selects RX5 ⟨"ChiefGrades$Chief", "levels", "(ILChiefGrades$Trace;)I"⟩ yX0_levels ∈ gU := gu_in (List.mem_of_getElem? (i := 927) (by decide +kernel)) rfl
theorem u_928 : Cond.selects RX6 ⟨"ChiefGrades$Chief", "levels", "(ILChiefGrades$Trace;)I"⟩ yX6_levels ∈ gU := gu_in (List.mem_of_getElem? (i := 928) (by decide +kernel)) rfl
theorem u_929 : Cond.instanceMethod yX6_levels ∈ gU := gu_in (List.mem_of_getElem? (i := 929) (by decide +kernel)) rfl
theorem u_930 : Cond.code yX6_levels cX6_levels 3 (some .int) ∈ gU := gu_in (List.mem_of_getElem? (i := 930) (by decide +kernel)) rfl
theorem u_931 : Cond.methodLink RX6 22 yX8_begin ∈ gU := gu_in (List.mem_of_getElem? (i := 931) (by decide +kernel)) rfl
theorem u_932 : Cond.methodLink RX6 28 ⟨"ChiefGrades$Lenient", "levels", "(ILChiefGrades$Trace;)I"⟩ ∈ gU := gu_in (List.mem_of_getElem? (i := 932) (by decide +kernel)) rfl
theorem u_933 : Cond.sameMethod "ChiefGrades$Lenient" "ChiefGrades$Chief" "levels" "(ILChiefGrades$Trace;)I" ∈ gU := gu_in (List.mem_of_getElem? (i := 933) (by decide +kernel)) rfl
theorem u_935 : Cond.methodLink RX6 32 ⟨"ChiefGrades$Near", "works", "(ILChiefGrades$Trace;)I"⟩ ∈ gU := gu_in (List.mem_of_getElem? (i := 935) (by decide +kernel)) rfl
theorem u_936 : Cond.sameMethod "ChiefGrades$Near" "ChiefGrades$Lenient" "works" "(ILChiefGrades$Trace;)I" ∈ gU := gu_in (List.mem_of_getElem? (i := 936) (by decide +kernel)) rfl
theorem u_938 : Cond.selects RX6 ⟨"ChiefGrades$Near", "works", "(ILChiefGrades$Trace;)I"⟩ yX5_works ∈ gU := gu_in (List.mem_of_getElem? (i := 938) (by decide +kernel)) rfl
theorem u_939 : Cond.selects RX7 ⟨"ChiefGrades$Chief", "levels", "(ILChiefGrades$Trace;)I"⟩ yX4_levels ∈ gU := gu_in (List.mem_of_getElem? (i := 939) (by decide +kernel)) rfl
theorem u_940 : Cond.selects RX9 ⟨"ChiefGrades$Chief", "levels", "(ILChiefGrades$Trace;)I"⟩ yX0_levels ∈ gU := gu_in (List.mem_of_getElem? (i := 940) (by decide +kernel)) rfl
theorem u_941 : Cond.code yX0_levels cX0_levels 3 (some .int) ∈ gU := gu_in (List.mem_of_getElem? (i := 941) (by decide +kernel)) rfl
theorem u_942 : Cond.methodLink RX0 53 yX0_grades ∈ gU := gu_in (List.mem_of_getElem? (i := 942) (by decide +kernel)) rfl
theorem u_951 : Cond.methodLink RX11 244 yX0_isOfKind ∈ gU := gu_in (List.mem_of_getElem? (i := 951) (by decide +kernel)) rfl
theorem u_952 : Cond.instanceMethod yX0_isOfKind ∈ gU := gu_in (List.mem_of_getElem? (i := 952) (by decide +kernel)) rfl
theorem u_953 : Cond.selects RX0 yX0_isOfKind yX0_isOfKind ∈ gU := gu_in (List.mem_of_getElem? (i := 953) (by decide +kernel)) rfl
theorem u_954 : Cond.sameMethod "ChiefGrades$Chief" "ChiefGrades$Chief" "isOfKind" "(I)Z" ∈ gU := gu_in (List.mem_of_getElem? (i := 954) (by decide +kernel)) rfl
theorem u_955 : Cond.selects RX3 ⟨"ChiefGrades$Chief", "isOfKind", "(I)Z"⟩ yX0_isOfKind ∈ gU := gu_in (List.mem_of_getElem? (i := 955) (by decide +kernel)) rfl
theorem u_956 : Cond.selects RX4 ⟨"ChiefGrades$Chief", "isOfKind", "(I)Z"⟩ yX0_isOfKind ∈ gU := gu_in (List.mem_of_getElem? (i := 956) (by decide +kernel)) rfl
theorem u_957 : Cond.selects RX5 ⟨"ChiefGrades$Chief", "isOfKind", "(I)Z"⟩ yX0_isOfKind ∈ gU := gu_in (List.mem_of_getElem? (i := 957) (by decide +kernel)) rfl
theorem u_958 : Cond.selects RX6 ⟨"ChiefGrades$Chief", "isOfKind", "(I)Z"⟩ yX0_isOfKind ∈ gU := gu_in (List.mem_of_getElem? (i := 958) (by decide +kernel)) rfl
theorem u_959 : Cond.selects RX7 ⟨"ChiefGrades$Chief", "isOfKind", "(I)Z"⟩ yX0_isOfKind ∈ gU := gu_in (List.mem_of_getElem? (i := 959) (by decide +kernel)) rfl
theorem u_960 : Cond.selects RX9 ⟨"ChiefGrades$Chief", "isOfKind", "(I)Z"⟩ yX0_isOfKind ∈ gU := gu_in (List.mem_of_getElem? (i := 960) (by decide +kernel)) rfl
theorem u_961 : Cond.code yX0_isOfKind cX0_isOfKind 2 (some .boolean) ∈ gU := gu_in (List.mem_of_getElem? (i := 961) (by decide +kernel)) rfl
theorem u_980 : Cond.fieldLink RX12 9 "ChiefGradesModel" "s" "[I" ∈ gU := gu_in (List.mem_of_getElem? (i := 980) (by decide +kernel)) rfl
theorem u_981 : Cond.fieldLink RX12 15 "ChiefGradesModel" "image" "[I" ∈ gU := gu_in (List.mem_of_getElem? (i := 981) (by decide +kernel)) rfl
theorem u_982 : Cond.fieldLink RX12 18 "ChiefGradesModel" "frame" "[I" ∈ gU := gu_in (List.mem_of_getElem? (i := 982) (by decide +kernel)) rfl
theorem u_983 : Cond.fieldLink RX12 278 "ChiefGradesModel" "hasImage" "Z" ∈ gU := gu_in (List.mem_of_getElem? (i := 983) (by decide +kernel)) rfl
theorem u_984 : Cond.fieldLink RX12 81 "ChiefGradesModel" "act" "I" ∈ gU := gu_in (List.mem_of_getElem? (i := 984) (by decide +kernel)) rfl
theorem u_985 : Cond.fieldLink RX12 54 "ChiefGradesModel" "spot" "I" ∈ gU := gu_in (List.mem_of_getElem? (i := 985) (by decide +kernel)) rfl
theorem u_986 : Cond.fieldLink RX12 57 "ChiefGradesModel" "end" "I" ∈ gU := gu_in (List.mem_of_getElem? (i := 986) (by decide +kernel)) rfl
theorem u_987 : Cond.fieldLink RX12 60 "ChiefGradesModel" "isWrong" "Z" ∈ gU := gu_in (List.mem_of_getElem? (i := 987) (by decide +kernel)) rfl
theorem u_988 : Cond.fieldLink RX12 84 "ChiefGradesModel" "open" "I" ∈ gU := gu_in (List.mem_of_getElem? (i := 988) (by decide +kernel)) rfl
theorem u_989 : Cond.fieldLink RX12 21 "ChiefGradesModel" "by" "[I" ∈ gU := gu_in (List.mem_of_getElem? (i := 989) (by decide +kernel)) rfl
theorem u_990 : Cond.fieldLink RX12 24 "ChiefGradesModel" "truths" "[Z" ∈ gU := gu_in (List.mem_of_getElem? (i := 990) (by decide +kernel)) rfl
theorem u_991 : Cond.fieldLink RX12 28 "ChiefGradesModel" "marks" "[I" ∈ gU := gu_in (List.mem_of_getElem? (i := 991) (by decide +kernel)) rfl
theorem u_992 : Cond.fieldLink RX12 31 "ChiefGradesModel" "grades" "[I" ∈ gU := gu_in (List.mem_of_getElem? (i := 992) (by decide +kernel)) rfl
theorem u_993 : Cond.fieldLink RX12 34 "ChiefGradesModel" "dues" "[I" ∈ gU := gu_in (List.mem_of_getElem? (i := 993) (by decide +kernel)) rfl
theorem u_994 : Cond.fieldLink RX12 37 "ChiefGradesModel" "isIn" "[Z" ∈ gU := gu_in (List.mem_of_getElem? (i := 994) (by decide +kernel)) rfl
theorem u_995 : Cond.fieldLink RX12 40 "ChiefGradesModel" "means" "[I" ∈ gU := gu_in (List.mem_of_getElem? (i := 995) (by decide +kernel)) rfl
theorem u_996 : Cond.fieldLink RX12 43 "ChiefGradesModel" "bodies" "[I" ∈ gU := gu_in (List.mem_of_getElem? (i := 996) (by decide +kernel)) rfl
theorem u_997 : Cond.fieldLink RX12 242 "ChiefGradesModel" "ran" "I" ∈ gU := gu_in (List.mem_of_getElem? (i := 997) (by decide +kernel)) rfl
theorem u_998 : Cond.fieldLink RX12 251 "ChiefGradesModel" "kind" "I" ∈ gU := gu_in (List.mem_of_getElem? (i := 998) (by decide +kernel)) rfl
theorem u_999 : Cond.fieldLink RX12 248 "ChiefGradesModel" "number" "I" ∈ gU := gu_in (List.mem_of_getElem? (i := 999) (by decide +kernel)) rfl
theorem u_1000 : Cond.fieldLink RX12 263 "ChiefGradesModel" "tellsV" "I" ∈ gU := gu_in (List.mem_of_getElem? (i := 1000) (by decide +kernel)) rfl
theorem u_1051 : Cond.methodLink RX12 50 yX12_in ∈ gU := gu_in (List.mem_of_getElem? (i := 1051) (by decide +kernel)) rfl
theorem u_1052 : Cond.static yX12_in ∈ gU := gu_in (List.mem_of_getElem? (i := 1052) (by decide +kernel)) rfl
theorem u_1053 : Cond.code yX12_in cX12_in 3 (some .boolean) ∈ gU := gu_in (List.mem_of_getElem? (i := 1053) (by decide +kernel)) rfl
theorem u_1058 : Cond.methodLink RX12 131 yX12_clauseHere ∈ gU := gu_in (List.mem_of_getElem? (i := 1058) (by decide +kernel)) rfl
theorem u_1060 : Cond.instanceMethod yX12_clauseHere ∈ gU := gu_in (List.mem_of_getElem? (i := 1060) (by decide +kernel)) rfl
theorem u_1061 : Cond.code yX12_clauseHere cX12_clauseHere 1 none ∈ gU := gu_in (List.mem_of_getElem? (i := 1061) (by decide +kernel)) rfl
theorem u_1062 : Cond.methodLink RX12 64 yX12_here ∈ gU := gu_in (List.mem_of_getElem? (i := 1062) (by decide +kernel)) rfl
theorem u_1064 : Cond.instanceMethod yX12_here ∈ gU := gu_in (List.mem_of_getElem? (i := 1064) (by decide +kernel)) rfl
theorem u_1065 : Cond.code yX12_here cX12_here 1 (some .int) ∈ gU := gu_in (List.mem_of_getElem? (i := 1065) (by decide +kernel)) rfl
theorem u_1067 : Cond.methodLink RX12 116 yX12_much ∈ gU := gu_in (List.mem_of_getElem? (i := 1067) (by decide +kernel)) rfl
theorem u_1069 : Cond.instanceMethod yX12_much ∈ gU := gu_in (List.mem_of_getElem? (i := 1069) (by decide +kernel)) rfl
theorem u_1070 : Cond.code yX12_much cX12_much 4 none ∈ gU := gu_in (List.mem_of_getElem? (i := 1070) (by decide +kernel)) rfl
theorem u_1071 : Cond.methodLink RX12 110 yX12_spells ∈ gU := gu_in (List.mem_of_getElem? (i := 1071) (by decide +kernel)) rfl
theorem u_1073 : Cond.instanceMethod yX12_spells ∈ gU := gu_in (List.mem_of_getElem? (i := 1073) (by decide +kernel)) rfl
theorem u_1074 : Cond.code yX12_spells cX12_spells 3 none ∈ gU := gu_in (List.mem_of_getElem? (i := 1074) (by decide +kernel)) rfl
theorem u_1075 : Cond.methodLink RX12 68 yJ0_length_8abf5 ∈ gU := gu_in (List.mem_of_getElem? (i := 1075) (by decide +kernel)) rfl
theorem u_1076 : Cond.methodLink RX12 73 yJ0_charAt_5068e ∈ gU := gu_in (List.mem_of_getElem? (i := 1076) (by decide +kernel)) rfl
theorem u_1077 : Cond.methodLink RX12 77 yX12_must ∈ gU := gu_in (List.mem_of_getElem? (i := 1077) (by decide +kernel)) rfl
theorem u_1079 : Cond.instanceMethod yX12_must ∈ gU := gu_in (List.mem_of_getElem? (i := 1079) (by decide +kernel)) rfl
theorem u_1080 : Cond.code yX12_must cX12_must 2 none ∈ gU := gu_in (List.mem_of_getElem? (i := 1080) (by decide +kernel)) rfl
theorem u_1081 : Cond.methodLink RX12 104 yX12_figures ∈ gU := gu_in (List.mem_of_getElem? (i := 1081) (by decide +kernel)) rfl
theorem u_1083 : Cond.instanceMethod yX12_figures ∈ gU := gu_in (List.mem_of_getElem? (i := 1083) (by decide +kernel)) rfl
theorem u_1084 : Cond.code yX12_figures cX12_figures 3 (some .int) ∈ gU := gu_in (List.mem_of_getElem? (i := 1084) (by decide +kernel)) rfl
theorem u_1085 : Cond.methodLink RX12 93 yX12_some ∈ gU := gu_in (List.mem_of_getElem? (i := 1085) (by decide +kernel)) rfl
theorem u_1087 : Cond.instanceMethod yX12_some ∈ gU := gu_in (List.mem_of_getElem? (i := 1087) (by decide +kernel)) rfl
theorem u_1088 : Cond.code yX12_some cX12_some 1 none ∈ gU := gu_in (List.mem_of_getElem? (i := 1088) (by decide +kernel)) rfl
theorem u_1089 : Cond.methodLink RX12 107 yX12_every ∈ gU := gu_in (List.mem_of_getElem? (i := 1089) (by decide +kernel)) rfl
theorem u_1091 : Cond.instanceMethod yX12_every ∈ gU := gu_in (List.mem_of_getElem? (i := 1091) (by decide +kernel)) rfl
theorem u_1092 : Cond.code yX12_every cX12_every 1 none ∈ gU := gu_in (List.mem_of_getElem? (i := 1092) (by decide +kernel)) rfl
theorem u_1093 : Cond.methodLink RX12 87 yX12_factor ∈ gU := gu_in (List.mem_of_getElem? (i := 1093) (by decide +kernel)) rfl
theorem u_1095 : Cond.instanceMethod yX12_factor ∈ gU := gu_in (List.mem_of_getElem? (i := 1095) (by decide +kernel)) rfl
theorem u_1096 : Cond.code yX12_factor cX12_factor 5 none ∈ gU := gu_in (List.mem_of_getElem? (i := 1096) (by decide +kernel)) rfl
theorem u_1097 : Cond.methodLink RX12 90 yX12_emits ∈ gU := gu_in (List.mem_of_getElem? (i := 1097) (by decide +kernel)) rfl
theorem u_1099 : Cond.instanceMethod yX12_emits ∈ gU := gu_in (List.mem_of_getElem? (i := 1099) (by decide +kernel)) rfl
theorem u_1100 : Cond.code yX12_emits cX12_emits 2 none ∈ gU := gu_in (List.mem_of_getElem? (i := 1100) (by decide +kernel)) rfl
theorem u_1102 : Cond.methodLink RX12 98 yX12_among ∈ gU := gu_in (List.mem_of_getElem? (i := 1102) (by decide +kernel)) rfl
theorem u_1104 : Cond.instanceMethod yX12_among ∈ gU := gu_in (List.mem_of_getElem? (i := 1104) (by decide +kernel)) rfl
theorem u_1105 : Cond.code yX12_among cX12_among 3 (some .int) ∈ gU := gu_in (List.mem_of_getElem? (i := 1105) (by decide +kernel)) rfl
theorem u_1109 : Cond.methodLink RX12 124 yX12_tellsHere ∈ gU := gu_in (List.mem_of_getElem? (i := 1109) (by decide +kernel)) rfl
theorem u_1111 : Cond.instanceMethod yX12_tellsHere ∈ gU := gu_in (List.mem_of_getElem? (i := 1111) (by decide +kernel)) rfl
theorem u_1112 : Cond.code yX12_tellsHere cX12_tellsHere 4 none ∈ gU := gu_in (List.mem_of_getElem? (i := 1112) (by decide +kernel)) rfl
theorem u_1116 : Cond.instanceMethod yX12_told ∈ gU := gu_in (List.mem_of_getElem? (i := 1116) (by decide +kernel)) rfl
theorem u_1117 : Cond.selects RX12 yX12_told yX12_told ∈ gU := gu_in (List.mem_of_getElem? (i := 1117) (by decide +kernel)) rfl
theorem u_1118 : Cond.code yX12_told cX12_told 2 (some .int) ∈ gU := gu_in (List.mem_of_getElem? (i := 1118) (by decide +kernel)) rfl
theorem u_1119 : Cond.methodLink RX12 134 yX12_tellsOf ∈ gU := gu_in (List.mem_of_getElem? (i := 1119) (by decide +kernel)) rfl
theorem u_1121 : Cond.instanceMethod yX12_tellsOf ∈ gU := gu_in (List.mem_of_getElem? (i := 1121) (by decide +kernel)) rfl
theorem u_1122 : Cond.code yX12_tellsOf cX12_tellsOf 3 (some .int) ∈ gU := gu_in (List.mem_of_getElem? (i := 1122) (by decide +kernel)) rfl
theorem u_1131 : Cond.methodLink RX12 138 yX12_isChief ∈ gU := gu_in (List.mem_of_getElem? (i := 1131) (by decide +kernel)) rfl
theorem u_1133 : Cond.instanceMethod yX12_isChief ∈ gU := gu_in (List.mem_of_getElem? (i := 1133) (by decide +kernel)) rfl
theorem u_1134 : Cond.code yX12_isChief cX12_isChief 2 (some .boolean) ∈ gU := gu_in (List.mem_of_getElem? (i := 1134) (by decide +kernel)) rfl
theorem u_1139 : Cond.methodLink RX12 142 yX12_teamOf ∈ gU := gu_in (List.mem_of_getElem? (i := 1139) (by decide +kernel)) rfl
theorem u_1141 : Cond.instanceMethod yX12_teamOf ∈ gU := gu_in (List.mem_of_getElem? (i := 1141) (by decide +kernel)) rfl
theorem u_1142 : Cond.code yX12_teamOf cX12_teamOf 4 (some .int) ∈ gU := gu_in (List.mem_of_getElem? (i := 1142) (by decide +kernel)) rfl
theorem u_1147 : Cond.methodLink RX12 146 yX12_isWorker ∈ gU := gu_in (List.mem_of_getElem? (i := 1147) (by decide +kernel)) rfl
theorem u_1149 : Cond.instanceMethod yX12_isWorker ∈ gU := gu_in (List.mem_of_getElem? (i := 1149) (by decide +kernel)) rfl
theorem u_1150 : Cond.code yX12_isWorker cX12_isWorker 2 (some .boolean) ∈ gU := gu_in (List.mem_of_getElem? (i := 1150) (by decide +kernel)) rfl
theorem u_1163 : Cond.methodLink RX12 182 yX12_markOf ∈ gU := gu_in (List.mem_of_getElem? (i := 1163) (by decide +kernel)) rfl
theorem u_1165 : Cond.instanceMethod yX12_markOf ∈ gU := gu_in (List.mem_of_getElem? (i := 1165) (by decide +kernel)) rfl
theorem u_1166 : Cond.code yX12_markOf cX12_markOf 8 (some .int) ∈ gU := gu_in (List.mem_of_getElem? (i := 1166) (by decide +kernel)) rfl
theorem u_1167 : Cond.methodLink RX12 149 yX12_moreOf ∈ gU := gu_in (List.mem_of_getElem? (i := 1167) (by decide +kernel)) rfl
theorem u_1169 : Cond.instanceMethod yX12_moreOf ∈ gU := gu_in (List.mem_of_getElem? (i := 1169) (by decide +kernel)) rfl
theorem u_1170 : Cond.code yX12_moreOf cX12_moreOf 12 (some .int) ∈ gU := gu_in (List.mem_of_getElem? (i := 1170) (by decide +kernel)) rfl
theorem u_1171 : Cond.methodLink RX12 152 yX12_size ∈ gU := gu_in (List.mem_of_getElem? (i := 1171) (by decide +kernel)) rfl
theorem u_1172 : Cond.static yX12_size ∈ gU := gu_in (List.mem_of_getElem? (i := 1172) (by decide +kernel)) rfl
theorem u_1173 : Cond.code yX12_size cX12_size 1 (some .int) ∈ gU := gu_in (List.mem_of_getElem? (i := 1173) (by decide +kernel)) rfl
theorem u_1174 : Cond.methodLink RX12 191 yX12_gradesAll ∈ gU := gu_in (List.mem_of_getElem? (i := 1174) (by decide +kernel)) rfl
theorem u_1176 : Cond.instanceMethod yX12_gradesAll ∈ gU := gu_in (List.mem_of_getElem? (i := 1176) (by decide +kernel)) rfl
theorem u_1177 : Cond.code yX12_gradesAll cX12_gradesAll 2 none ∈ gU := gu_in (List.mem_of_getElem? (i := 1177) (by decide +kernel)) rfl
theorem u_1178 : Cond.methodLink RX12 185 yX12_gradesTeam ∈ gU := gu_in (List.mem_of_getElem? (i := 1178) (by decide +kernel)) rfl
theorem u_1180 : Cond.instanceMethod yX12_gradesTeam ∈ gU := gu_in (List.mem_of_getElem? (i := 1180) (by decide +kernel)) rfl
theorem u_1181 : Cond.code yX12_gradesTeam cX12_gradesTeam 3 none ∈ gU := gu_in (List.mem_of_getElem? (i := 1181) (by decide +kernel)) rfl
theorem u_1182 : Cond.methodLink RX12 155 yX12_gradeBy ∈ gU := gu_in (List.mem_of_getElem? (i := 1182) (by decide +kernel)) rfl
theorem u_1183 : Cond.static yX12_gradeBy ∈ gU := gu_in (List.mem_of_getElem? (i := 1183) (by decide +kernel)) rfl
theorem u_1184 : Cond.code yX12_gradeBy cX12_gradeBy 1 (some .int) ∈ gU := gu_in (List.mem_of_getElem? (i := 1184) (by decide +kernel)) rfl
theorem u_1185 : Cond.methodLink RX12 169 yX12_told ∈ gU := gu_in (List.mem_of_getElem? (i := 1185) (by decide +kernel)) rfl
theorem u_1186 : Cond.methodLink RX12 172 yX12_shareOf ∈ gU := gu_in (List.mem_of_getElem? (i := 1186) (by decide +kernel)) rfl
theorem u_1188 : Cond.instanceMethod yX12_shareOf ∈ gU := gu_in (List.mem_of_getElem? (i := 1188) (by decide +kernel)) rfl
theorem u_1189 : Cond.code yX12_shareOf cX12_shareOf 2 (some .int) ∈ gU := gu_in (List.mem_of_getElem? (i := 1189) (by decide +kernel)) rfl
theorem u_1190 : Cond.methodLink RX12 158 yX12_inTeam ∈ gU := gu_in (List.mem_of_getElem? (i := 1190) (by decide +kernel)) rfl
theorem u_1192 : Cond.instanceMethod yX12_inTeam ∈ gU := gu_in (List.mem_of_getElem? (i := 1192) (by decide +kernel)) rfl
theorem u_1193 : Cond.code yX12_inTeam cX12_inTeam 3 (some .int) ∈ gU := gu_in (List.mem_of_getElem? (i := 1193) (by decide +kernel)) rfl
theorem u_1194 : Cond.methodLink RX12 175 yX12_givesFives ∈ gU := gu_in (List.mem_of_getElem? (i := 1194) (by decide +kernel)) rfl
theorem u_1196 : Cond.instanceMethod yX12_givesFives ∈ gU := gu_in (List.mem_of_getElem? (i := 1196) (by decide +kernel)) rfl
theorem u_1197 : Cond.code yX12_givesFives cX12_givesFives 7 none ∈ gU := gu_in (List.mem_of_getElem? (i := 1197) (by decide +kernel)) rfl
theorem u_1198 : Cond.methodLink RX12 178 yX12_onesBy ∈ gU := gu_in (List.mem_of_getElem? (i := 1198) (by decide +kernel)) rfl
theorem u_1200 : Cond.instanceMethod yX12_onesBy ∈ gU := gu_in (List.mem_of_getElem? (i := 1200) (by decide +kernel)) rfl
theorem u_1201 : Cond.code yX12_onesBy cX12_onesBy 4 none ∈ gU := gu_in (List.mem_of_getElem? (i := 1201) (by decide +kernel)) rfl
theorem u_1202 : Cond.methodLink RX12 161 yX12_turnsOnes ∈ gU := gu_in (List.mem_of_getElem? (i := 1202) (by decide +kernel)) rfl
theorem u_1204 : Cond.instanceMethod yX12_turnsOnes ∈ gU := gu_in (List.mem_of_getElem? (i := 1204) (by decide +kernel)) rfl
theorem u_1205 : Cond.code yX12_turnsOnes cX12_turnsOnes 8 none ∈ gU := gu_in (List.mem_of_getElem? (i := 1205) (by decide +kernel)) rfl
theorem u_1206 : Cond.methodLink RX12 165 yX12_givesOnes ∈ gU := gu_in (List.mem_of_getElem? (i := 1206) (by decide +kernel)) rfl
theorem u_1208 : Cond.instanceMethod yX12_givesOnes ∈ gU := gu_in (List.mem_of_getElem? (i := 1208) (by decide +kernel)) rfl
theorem u_1209 : Cond.code yX12_givesOnes cX12_givesOnes 6 none ∈ gU := gu_in (List.mem_of_getElem? (i := 1209) (by decide +kernel)) rfl
theorem u_1210 : Cond.methodLink RX12 194 yX12_duesAll ∈ gU := gu_in (List.mem_of_getElem? (i := 1210) (by decide +kernel)) rfl
theorem u_1212 : Cond.instanceMethod yX12_duesAll ∈ gU := gu_in (List.mem_of_getElem? (i := 1212) (by decide +kernel)) rfl
theorem u_1213 : Cond.code yX12_duesAll cX12_duesAll 2 none ∈ gU := gu_in (List.mem_of_getElem? (i := 1213) (by decide +kernel)) rfl
theorem u_1214 : Cond.methodLink RX12 197 yX12_levelsAll ∈ gU := gu_in (List.mem_of_getElem? (i := 1214) (by decide +kernel)) rfl
theorem u_1216 : Cond.instanceMethod yX12_levelsAll ∈ gU := gu_in (List.mem_of_getElem? (i := 1216) (by decide +kernel)) rfl
theorem u_1217 : Cond.code yX12_levelsAll cX12_levelsAll 3 none ∈ gU := gu_in (List.mem_of_getElem? (i := 1217) (by decide +kernel)) rfl
theorem u_1218 : Cond.methodLink RX12 188 yX12_meanOf ∈ gU := gu_in (List.mem_of_getElem? (i := 1218) (by decide +kernel)) rfl
theorem u_1220 : Cond.instanceMethod yX12_meanOf ∈ gU := gu_in (List.mem_of_getElem? (i := 1220) (by decide +kernel)) rfl
theorem u_1221 : Cond.code yX12_meanOf cX12_meanOf 6 (some .int) ∈ gU := gu_in (List.mem_of_getElem? (i := 1221) (by decide +kernel)) rfl
theorem u_1234 : Cond.methodLink RX12 200 yX12_movedOf ∈ gU := gu_in (List.mem_of_getElem? (i := 1234) (by decide +kernel)) rfl
theorem u_1236 : Cond.instanceMethod yX12_movedOf ∈ gU := gu_in (List.mem_of_getElem? (i := 1236) (by decide +kernel)) rfl
theorem u_1237 : Cond.code yX12_movedOf cX12_movedOf 4 (some .int) ∈ gU := gu_in (List.mem_of_getElem? (i := 1237) (by decide +kernel)) rfl
theorem u_1250 : Cond.methodLink RX12 203 yX12_changes ∈ gU := gu_in (List.mem_of_getElem? (i := 1250) (by decide +kernel)) rfl
theorem u_1252 : Cond.instanceMethod yX12_changes ∈ gU := gu_in (List.mem_of_getElem? (i := 1252) (by decide +kernel)) rfl
theorem u_1253 : Cond.code yX12_changes cX12_changes 5 none ∈ gU := gu_in (List.mem_of_getElem? (i := 1253) (by decide +kernel)) rfl
theorem u_1258 : Cond.methodLink RX12 209 yX12_yearGoes ∈ gU := gu_in (List.mem_of_getElem? (i := 1258) (by decide +kernel)) rfl
theorem u_1260 : Cond.instanceMethod yX12_yearGoes ∈ gU := gu_in (List.mem_of_getElem? (i := 1260) (by decide +kernel)) rfl
theorem u_1261 : Cond.code yX12_yearGoes cX12_yearGoes 7 (some .int) ∈ gU := gu_in (List.mem_of_getElem? (i := 1261) (by decide +kernel)) rfl
theorem u_1262 : Cond.methodLink RX12 206 yX12_newOne ∈ gU := gu_in (List.mem_of_getElem? (i := 1262) (by decide +kernel)) rfl
theorem u_1264 : Cond.instanceMethod yX12_newOne ∈ gU := gu_in (List.mem_of_getElem? (i := 1264) (by decide +kernel)) rfl
theorem u_1265 : Cond.code yX12_newOne cX12_newOne 2 none ∈ gU := gu_in (List.mem_of_getElem? (i := 1265) (by decide +kernel)) rfl
theorem u_1270 : Cond.methodLink RX12 212 yX12_keeps ∈ gU := gu_in (List.mem_of_getElem? (i := 1270) (by decide +kernel)) rfl
theorem u_1272 : Cond.instanceMethod yX12_keeps ∈ gU := gu_in (List.mem_of_getElem? (i := 1272) (by decide +kernel)) rfl
theorem u_1273 : Cond.code yX12_keeps cX12_keeps 2 none ∈ gU := gu_in (List.mem_of_getElem? (i := 1273) (by decide +kernel)) rfl
theorem u_1274 : Cond.methodLink RX12 215 yX12_goesBack ∈ gU := gu_in (List.mem_of_getElem? (i := 1274) (by decide +kernel)) rfl
theorem u_1276 : Cond.instanceMethod yX12_goesBack ∈ gU := gu_in (List.mem_of_getElem? (i := 1276) (by decide +kernel)) rfl
theorem u_1277 : Cond.code yX12_goesBack cX12_goesBack 2 none ∈ gU := gu_in (List.mem_of_getElem? (i := 1277) (by decide +kernel)) rfl
theorem u_1282 : Cond.constantLong RX12 222 (-9223372036854775808) ∈ gU := gu_in (List.mem_of_getElem? (i := 1282) (by decide +kernel)) rfl
theorem u_1283 : Cond.methodLink RX12 224 yX12_chooses ∈ gU := gu_in (List.mem_of_getElem? (i := 1283) (by decide +kernel)) rfl
theorem u_1284 : Cond.static yX12_chooses ∈ gU := gu_in (List.mem_of_getElem? (i := 1284) (by decide +kernel)) rfl
theorem u_1285 : Cond.code yX12_chooses cX12_chooses 5 (some .long) ∈ gU := gu_in (List.mem_of_getElem? (i := 1285) (by decide +kernel)) rfl
theorem u_1286 : Cond.methodLink RX12 228 yX12_lowest ∈ gU := gu_in (List.mem_of_getElem? (i := 1286) (by decide +kernel)) rfl
theorem u_1287 : Cond.static yX12_lowest ∈ gU := gu_in (List.mem_of_getElem? (i := 1287) (by decide +kernel)) rfl
theorem u_1288 : Cond.code yX12_lowest cX12_lowest 5 (some .long) ∈ gU := gu_in (List.mem_of_getElem? (i := 1288) (by decide +kernel)) rfl
theorem u_1289 : Cond.methodLink RX12 218 yX12_divisor ∈ gU := gu_in (List.mem_of_getElem? (i := 1289) (by decide +kernel)) rfl
theorem u_1290 : Cond.static yX12_divisor ∈ gU := gu_in (List.mem_of_getElem? (i := 1290) (by decide +kernel)) rfl
theorem u_1291 : Cond.code yX12_divisor cX12_divisor 10 (some .long) ∈ gU := gu_in (List.mem_of_getElem? (i := 1291) (by decide +kernel)) rfl
theorem u_1304 : Cond.methodLink RX12 239 yX12_netOf ∈ gU := gu_in (List.mem_of_getElem? (i := 1304) (by decide +kernel)) rfl
theorem u_1306 : Cond.instanceMethod yX12_netOf ∈ gU := gu_in (List.mem_of_getElem? (i := 1306) (by decide +kernel)) rfl
theorem u_1307 : Cond.code yX12_netOf cX12_netOf 6 (some .int) ∈ gU := gu_in (List.mem_of_getElem? (i := 1307) (by decide +kernel)) rfl
theorem u_1308 : Cond.methodLink RX12 235 yX12_haveBoth ∈ gU := gu_in (List.mem_of_getElem? (i := 1308) (by decide +kernel)) rfl
theorem u_1310 : Cond.instanceMethod yX12_haveBoth ∈ gU := gu_in (List.mem_of_getElem? (i := 1310) (by decide +kernel)) rfl
theorem u_1311 : Cond.code yX12_haveBoth cX12_haveBoth 5 (some .boolean) ∈ gU := gu_in (List.mem_of_getElem? (i := 1311) (by decide +kernel)) rfl
theorem u_1312 : Cond.methodLink RX12 232 yX12_firstRow ∈ gU := gu_in (List.mem_of_getElem? (i := 1312) (by decide +kernel)) rfl
theorem u_1314 : Cond.instanceMethod yX12_firstRow ∈ gU := gu_in (List.mem_of_getElem? (i := 1314) (by decide +kernel)) rfl
theorem u_1315 : Cond.code yX12_firstRow cX12_firstRow 4 (some .int) ∈ gU := gu_in (List.mem_of_getElem? (i := 1315) (by decide +kernel)) rfl
theorem u_1328 : Cond.methodLink RX12 260 yX12_worksActs ∈ gU := gu_in (List.mem_of_getElem? (i := 1328) (by decide +kernel)) rfl
theorem u_1330 : Cond.instanceMethod yX12_worksActs ∈ gU := gu_in (List.mem_of_getElem? (i := 1330) (by decide +kernel)) rfl
theorem u_1331 : Cond.code yX12_worksActs cX12_worksActs 2 (some .int) ∈ gU := gu_in (List.mem_of_getElem? (i := 1331) (by decide +kernel)) rfl
theorem u_1332 : Cond.methodLink RX12 254 yX12_isUnder ∈ gU := gu_in (List.mem_of_getElem? (i := 1332) (by decide +kernel)) rfl
theorem u_1333 : Cond.static yX12_isUnder ∈ gU := gu_in (List.mem_of_getElem? (i := 1333) (by decide +kernel)) rfl
theorem u_1334 : Cond.code yX12_isUnder cX12_isUnder 2 (some .boolean) ∈ gU := gu_in (List.mem_of_getElem? (i := 1334) (by decide +kernel)) rfl
theorem u_1335 : Cond.methodLink RX12 245 yX12_ranBody ∈ gU := gu_in (List.mem_of_getElem? (i := 1335) (by decide +kernel)) rfl
theorem u_1337 : Cond.instanceMethod yX12_ranBody ∈ gU := gu_in (List.mem_of_getElem? (i := 1337) (by decide +kernel)) rfl
theorem u_1338 : Cond.code yX12_ranBody cX12_ranBody 2 none ∈ gU := gu_in (List.mem_of_getElem? (i := 1338) (by decide +kernel)) rfl
theorem u_1339 : Cond.methodLink RX12 257 yX12_plainWorks ∈ gU := gu_in (List.mem_of_getElem? (i := 1339) (by decide +kernel)) rfl
theorem u_1341 : Cond.instanceMethod yX12_plainWorks ∈ gU := gu_in (List.mem_of_getElem? (i := 1341) (by decide +kernel)) rfl
theorem u_1342 : Cond.code yX12_plainWorks cX12_plainWorks 2 (some .int) ∈ gU := gu_in (List.mem_of_getElem? (i := 1342) (by decide +kernel)) rfl
theorem u_1343 : Cond.methodLink RX12 269 yX12_gradesActs ∈ gU := gu_in (List.mem_of_getElem? (i := 1343) (by decide +kernel)) rfl
theorem u_1345 : Cond.instanceMethod yX12_gradesActs ∈ gU := gu_in (List.mem_of_getElem? (i := 1345) (by decide +kernel)) rfl
theorem u_1346 : Cond.code yX12_gradesActs cX12_gradesActs 2 (some .int) ∈ gU := gu_in (List.mem_of_getElem? (i := 1346) (by decide +kernel)) rfl
theorem u_1347 : Cond.methodLink RX12 266 yX12_plainGrades ∈ gU := gu_in (List.mem_of_getElem? (i := 1347) (by decide +kernel)) rfl
theorem u_1349 : Cond.instanceMethod yX12_plainGrades ∈ gU := gu_in (List.mem_of_getElem? (i := 1349) (by decide +kernel)) rfl
theorem u_1350 : Cond.code yX12_plainGrades cX12_plainGrades 2 (some .int) ∈ gU := gu_in (List.mem_of_getElem? (i := 1350) (by decide +kernel)) rfl
theorem u_1351 : Cond.methodLink RX12 275 yX12_levelsActs ∈ gU := gu_in (List.mem_of_getElem? (i := 1351) (by decide +kernel)) rfl
theorem u_1353 : Cond.instanceMethod yX12_levelsActs ∈ gU := gu_in (List.mem_of_getElem? (i := 1353) (by decide +kernel)) rfl
theorem u_1354 : Cond.code yX12_levelsActs cX12_levelsActs 3 (some .int) ∈ gU := gu_in (List.mem_of_getElem? (i := 1354) (by decide +kernel)) rfl
theorem u_1355 : Cond.methodLink RX12 272 yX12_plainLevels ∈ gU := gu_in (List.mem_of_getElem? (i := 1355) (by decide +kernel)) rfl
theorem u_1357 : Cond.instanceMethod yX12_plainLevels ∈ gU := gu_in (List.mem_of_getElem? (i := 1357) (by decide +kernel)) rfl
theorem u_1358 : Cond.code yX12_plainLevels cX12_plainLevels 2 (some .int) ∈ gU := gu_in (List.mem_of_getElem? (i := 1358) (by decide +kernel)) rfl
theorem u_1379 : Cond.sameMethod "ChiefGrades$Lenient" "ChiefGrades$Lenient" "favour" "(I)I" ∈ gU := gu_in (List.mem_of_getElem? (i := 1379) (by decide +kernel)) rfl
theorem u_1380 : Cond.sameMethod "ChiefGrades$Turning" "ChiefGrades$Turning" "lineUp" "([III[I)V" ∈ gU := gu_in (List.mem_of_getElem? (i := 1380) (by decide +kernel)) rfl
theorem u_1390 : Cond.fieldLink RJ0 9 "java/lang/String" "value" "[B" ∈ gU := gu_in (List.mem_of_getElem? (i := 1390) (by decide +kernel)) rfl
theorem u_1391 : Cond.fieldLink RJ0 15 "java/lang/String" "coder" "B" ∈ gU := gu_in (List.mem_of_getElem? (i := 1391) (by decide +kernel)) rfl
theorem gc_OX3_RX0_49_X3_works : GoodIn gU (va_wsO RX0 49 RX3 "ChiefGrades$Chief" ⟨"ChiefGrades$Chief", "works", "(ILChiefGrades$Trace;)I"⟩ yX3_works (.code yX3_works cX3_works 3 (some .int) :: gU)) := gu_O u_916 u_873 u_871 u_874 u_875 u_85 u_876
theorem gc_OX3_RX0_53_X9_grades : GoodIn gU (va_wsO RX0 53 RX3 "ChiefGrades$Chief" ⟨"ChiefGrades$Chief", "grades", "(ILChiefGrades$Trace;)I"⟩ yX9_grades (.code yX9_grades cX9_grades 3 (some .int) :: gU)) := gu_O u_942 u_898 u_896 u_899 u_900 u_82 u_901
theorem gc_OX3_RX11_231_X3_works : GoodIn gU (va_wsO RX11 231 RX3 "ChiefGrades$Chief" ⟨"ChiefGrades$Chief", "works", "(ILChiefGrades$Trace;)I"⟩ yX3_works (.code yX3_works cX3_works 3 (some .int) :: gU)) := gu_O u_870 u_873 u_871 u_874 u_875 u_85 u_876
theorem gc_OX3_RX11_235_X9_grades : GoodIn gU (va_wsO RX11 235 RX3 "ChiefGrades$Chief" ⟨"ChiefGrades$Chief", "grades", "(ILChiefGrades$Trace;)I"⟩ yX9_grades (.code yX9_grades cX9_grades 3 (some .int) :: gU)) := gu_O u_895 u_898 u_896 u_899 u_900 u_82 u_901
theorem gc_OX3_RX1_143_X3_lineUp : GoodIn gU (va_wsO RX1 143 RX3 "ChiefGrades$Chief" ⟨"ChiefGrades$Chief", "lineUp", "([III[I)V"⟩ yX3_lineUp (.code yX3_lineUp cX3_lineUp 9 none :: gU)) := gu_O u_695 u_698 u_696 u_699 u_700 u_85 u_701
theorem gc_OX4_RX11_238_X4_levels : GoodIn gU (va_wsO RX11 238 RX4 "ChiefGrades$Chief" ⟨"ChiefGrades$Chief", "levels", "(ILChiefGrades$Trace;)I"⟩ yX4_levels (.code yX4_levels cX4_levels 3 (some .int) :: gU)) := gu_O u_917 u_920 u_918 u_922 u_923 u_83 u_924
theorem gc_OX4_RX1_67_X4_seen : GoodIn gU (va_wsO RX1 67 RX4 "ChiefGrades$Chief" ⟨"ChiefGrades$Chief", "seen", "(II)I"⟩ yX4_seen (.code yX4_seen cX4_seen 3 (some .int) :: gU)) := gu_O u_627 u_630 u_628 u_632 u_633 u_83 u_634
theorem gc_OX5_RX0_49_X5_works : GoodIn gU (va_wsO RX0 49 RX5 "ChiefGrades$Chief" ⟨"ChiefGrades$Chief", "works", "(ILChiefGrades$Trace;)I"⟩ yX5_works (.code yX5_works cX5_works 3 (some .int) :: gU)) := gu_O u_916 u_873 u_871 u_885 u_886 u_81 u_887
theorem gc_OX5_RX11_231_X5_works : GoodIn gU (va_wsO RX11 231 RX5 "ChiefGrades$Chief" ⟨"ChiefGrades$Chief", "works", "(ILChiefGrades$Trace;)I"⟩ yX5_works (.code yX5_works cX5_works 3 (some .int) :: gU)) := gu_O u_870 u_873 u_871 u_885 u_886 u_81 u_887
theorem gc_OX5_RX1_74_X5_favour : GoodIn gU (va_wsO RX1 74 RX5 "ChiefGrades$Chief" ⟨"ChiefGrades$Chief", "favour", "(I)I"⟩ yX5_favour (.code yX5_favour cX5_favour 2 (some .int) :: gU)) := gu_O u_640 u_643 u_641 u_646 u_647 u_81 u_648
theorem gc_OX6_RX0_49_X5_works : GoodIn gU (va_wsO RX0 49 RX6 "ChiefGrades$Chief" ⟨"ChiefGrades$Chief", "works", "(ILChiefGrades$Trace;)I"⟩ yX5_works (.code yX5_works cX5_works 3 (some .int) :: gU)) := gu_O u_916 u_873 u_871 u_890 u_886 u_81 u_887
theorem gc_OX6_RX11_231_X5_works : GoodIn gU (va_wsO RX11 231 RX6 "ChiefGrades$Chief" ⟨"ChiefGrades$Chief", "works", "(ILChiefGrades$Trace;)I"⟩ yX5_works (.code yX5_works cX5_works 3 (some .int) :: gU)) := gu_O u_870 u_873 u_871 u_890 u_886 u_81 u_887
theorem gc_OX6_RX11_238_X6_levels : GoodIn gU (va_wsO RX11 238 RX6 "ChiefGrades$Chief" ⟨"ChiefGrades$Chief", "levels", "(ILChiefGrades$Trace;)I"⟩ yX6_levels (.code yX6_levels cX6_levels 3 (some .int) :: gU)) := gu_O u_917 u_920 u_918 u_928 u_929 u_84 u_930
theorem gc_OX6_RX1_74_X6_favour : GoodIn gU (va_wsO RX1 74 RX6 "ChiefGrades$Chief" ⟨"ChiefGrades$Chief", "favour", "(I)I"⟩ yX6_favour (.code yX6_favour cX6_favour 2 (some .int) :: gU)) := gu_O u_640 u_643 u_641 u_649 u_650 u_84 u_651
theorem gc_OX7_RX0_53_X7_grades : GoodIn gU (va_wsO RX0 53 RX7 "ChiefGrades$Chief" ⟨"ChiefGrades$Chief", "grades", "(ILChiefGrades$Trace;)I"⟩ yX7_grades (.code yX7_grades cX7_grades 3 (some .int) :: gU)) := gu_O u_942 u_898 u_896 u_907 u_908 u_86 u_909
theorem gc_OX7_RX11_235_X7_grades : GoodIn gU (va_wsO RX11 235 RX7 "ChiefGrades$Chief" ⟨"ChiefGrades$Chief", "grades", "(ILChiefGrades$Trace;)I"⟩ yX7_grades (.code yX7_grades cX7_grades 3 (some .int) :: gU)) := gu_O u_895 u_898 u_896 u_907 u_908 u_86 u_909
theorem gc_OX7_RX11_238_X4_levels : GoodIn gU (va_wsO RX11 238 RX7 "ChiefGrades$Chief" ⟨"ChiefGrades$Chief", "levels", "(ILChiefGrades$Trace;)I"⟩ yX4_levels (.code yX4_levels cX4_levels 3 (some .int) :: gU)) := gu_O u_917 u_920 u_918 u_939 u_923 u_83 u_924
theorem gc_OX7_RX1_67_X4_seen : GoodIn gU (va_wsO RX1 67 RX7 "ChiefGrades$Chief" ⟨"ChiefGrades$Chief", "seen", "(II)I"⟩ yX4_seen (.code yX4_seen cX4_seen 3 (some .int) :: gU)) := gu_O u_627 u_630 u_628 u_637 u_633 u_83 u_634
theorem gc_OX7_RX1_74_X7_favour : GoodIn gU (va_wsO RX1 74 RX7 "ChiefGrades$Chief" ⟨"ChiefGrades$Chief", "favour", "(I)I"⟩ yX7_favour (.code yX7_favour cX7_favour 2 (some .int) :: gU)) := gu_O u_640 u_643 u_641 u_656 u_657 u_86 u_658
theorem gc_OX9_RX0_53_X9_grades : GoodIn gU (va_wsO RX0 53 RX9 "ChiefGrades$Chief" ⟨"ChiefGrades$Chief", "grades", "(ILChiefGrades$Trace;)I"⟩ yX9_grades (.code yX9_grades cX9_grades 3 (some .int) :: gU)) := gu_O u_942 u_898 u_896 u_914 u_900 u_82 u_901
theorem gc_OX9_RX11_235_X9_grades : GoodIn gU (va_wsO RX11 235 RX9 "ChiefGrades$Chief" ⟨"ChiefGrades$Chief", "grades", "(ILChiefGrades$Trace;)I"⟩ yX9_grades (.code yX9_grades cX9_grades 3 (some .int) :: gU)) := gu_O u_895 u_898 u_896 u_914 u_900 u_82 u_901
theorem gc_OX9_RX1_143_X9_lineUp : GoodIn gU (va_wsO RX1 143 RX9 "ChiefGrades$Chief" ⟨"ChiefGrades$Chief", "lineUp", "([III[I)V"⟩ yX9_lineUp (.code yX9_lineUp cX9_lineUp 6 none :: gU)) := gu_O u_695 u_698 u_696 u_709 u_703 u_82 u_704
theorem gc_SU_RX3_13_X9_lineUp : GoodIn gU (va_wsSU RX3 13 yX9_lineUp (.code yX9_lineUp cX9_lineUp 6 none :: gU)) := gu_SU u_702 u_1380 u_578 u_703 u_82 u_704
theorem gc_SU_RX4_19_X0_levels : GoodIn gU (va_wsSU RX4 19 yX0_levels (.code yX0_levels cX0_levels 3 (some .int) :: gU)) := gu_SU u_926 u_920 u_556 u_918 u_73 u_941
theorem gc_SU_RX5_19_X0_works : GoodIn gU (va_wsSU RX5 19 yX0_works (.code yX0_works cX0_works 3 (some .int) :: gU)) := gu_SU u_889 u_873 u_534 u_871 u_73 u_893
theorem gc_SU_RX6_7_X5_favour : GoodIn gU (va_wsSU RX6 7 yX5_favour (.code yX5_favour cX5_favour 2 (some .int) :: gU)) := gu_SU u_652 u_1379 u_567 u_647 u_81 u_648
theorem gc_SU_RX9_13_X0_grades : GoodIn gU (va_wsSU RX9 13 yX0_grades (.code yX0_grades cX0_grades 3 (some .int) :: gU)) := gu_SU u_903 u_898 u_545 u_896 u_73 u_915
theorem gc_S_RJ0_1059_J3_checkIndex_8e157 : GoodIn gU (va_wsS RJ0 1059 yJ3_checkIndex_8e157 (.code yJ3_checkIndex_8e157 cJ3_checkIndex_8e157 3 (some .int) :: gU)) := gu_S u_399 u_400 u_78 u_401
theorem gc_S_RJ0_495_J1_charAt_3b067 : GoodIn gU (va_wsS RJ0 495 yJ1_charAt_3b067 (.code yJ1_charAt_3b067 cJ1_charAt_3b067 2 (some .char) :: gU)) := gu_S u_391 u_392 u_77 u_393
theorem gc_S_RJ0_637_J1_indexOf_4cfef : GoodIn gU (va_wsS RJ0 637 yJ1_indexOf_4cfef (.code yJ1_indexOf_4cfef cJ1_indexOf_4cfef 4 (some .int) :: gU)) := gu_S u_451 u_452 u_77 u_453
theorem gc_S_RJ1_88_J1_canEncode_9a6ad : GoodIn gU (va_wsS RJ1 88 yJ1_canEncode_9a6ad (.code yJ1_canEncode_9a6ad cJ1_canEncode_9a6ad 1 (some .boolean) :: gU)) := gu_S u_454 u_455 u_77 u_456
theorem gc_S_RJ1_95_J1_indexOfChar_4cfef : GoodIn gU (va_wsS RJ1 95 yJ1_indexOfChar_4cfef (.code yJ1_indexOfChar_4cfef cJ1_indexOfChar_4cfef 6 (some .int) :: gU)) := gu_S u_459 u_460 u_77 u_461
theorem gc_S_RJ1_9_J0_checkIndex_df160 : GoodIn gU (va_wsS RJ1 9 yJ0_checkIndex_df160 (.code yJ0_checkIndex_df160 cJ0_checkIndex_df160 2 none :: gU)) := gu_S u_394 u_395 u_76 u_396
theorem gc_S_RX11_156_J6_bitCount_0f7a4 : GoodIn gU (va_wsS RX11 156 yJ6_bitCount_0f7a4 (.code yJ6_bitCount_0f7a4 cJ6_bitCount_0f7a4 1 (some .int) :: gU)) := gu_S u_728 u_622 u_87 u_623
theorem gc_S_RX11_199_X11_choices : GoodIn gU (va_wsS RX11 199 yX11_choices (.code yX11_choices cX11_choices 5 (some .long) :: gU)) := gu_S u_821 u_822 u_68 u_823
theorem gc_S_RX11_203_X11_lowest : GoodIn gU (va_wsS RX11 203 yX11_lowest (.code yX11_lowest cX11_lowest 12 (some .long) :: gU)) := gu_S u_824 u_825 u_68 u_826
theorem gc_S_RX11_260_X11_outByLot : GoodIn gU (va_wsS RX11 260 yX11_outByLot (.code yX11_outByLot cX11_outByLot 3 none :: gU)) := gu_S u_796 u_797 u_68 u_798
theorem gc_S_RX11_84_X11_isWithin : GoodIn gU (va_wsS RX11 84 yX11_isWithin (.code yX11_isWithin cX11_isWithin 2 (some .boolean) :: gU)) := gu_S u_518 u_519 u_68 u_520
theorem gc_S_RX12_152_X12_size : GoodIn gU (va_wsS RX12 152 yX12_size (.code yX12_size cX12_size 1 (some .int) :: gU)) := gu_S u_1171 u_1172 u_75 u_1173
theorem gc_S_RX12_155_X12_gradeBy : GoodIn gU (va_wsS RX12 155 yX12_gradeBy (.code yX12_gradeBy cX12_gradeBy 1 (some .int) :: gU)) := gu_S u_1182 u_1183 u_75 u_1184
theorem gc_S_RX12_218_X12_divisor : GoodIn gU (va_wsS RX12 218 yX12_divisor (.code yX12_divisor cX12_divisor 10 (some .long) :: gU)) := gu_S u_1289 u_1290 u_75 u_1291
theorem gc_S_RX12_224_X12_chooses : GoodIn gU (va_wsS RX12 224 yX12_chooses (.code yX12_chooses cX12_chooses 5 (some .long) :: gU)) := gu_S u_1283 u_1284 u_75 u_1285
theorem gc_S_RX12_228_X12_lowest : GoodIn gU (va_wsS RX12 228 yX12_lowest (.code yX12_lowest cX12_lowest 5 (some .long) :: gU)) := gu_S u_1286 u_1287 u_75 u_1288
theorem gc_S_RX12_254_X12_isUnder : GoodIn gU (va_wsS RX12 254 yX12_isUnder (.code yX12_isUnder cX12_isUnder 2 (some .boolean) :: gU)) := gu_S u_1332 u_1333 u_75 u_1334
theorem gc_S_RX12_50_X12_in : GoodIn gU (va_wsS RX12 50 yX12_in (.code yX12_in cX12_in 3 (some .boolean) :: gU)) := gu_S u_1051 u_1052 u_75 u_1053
theorem gc_S_RX1_140_X1_byMark : GoodIn gU (va_wsS RX1 140 yX1_byMark (.code yX1_byMark cX1_byMark 1 (some .int) :: gU)) := gu_S u_692 u_693 u_72 u_694
theorem gc_S_RX1_59_J6_bitCount_0f7a4 : GoodIn gU (va_wsS RX1 59 yJ6_bitCount_0f7a4 (.code yJ6_bitCount_0f7a4 cJ6_bitCount_0f7a4 1 (some .int) :: gU)) := gu_S u_621 u_622 u_87 u_623
theorem gc_UX3_RX11_238_X0_levels : GoodIn gU (va_wsU RX11 238 RX3 "ChiefGrades$Chief" ⟨"ChiefGrades$Chief", "levels", "(ILChiefGrades$Trace;)I"⟩ yX0_levels (.code yX0_levels cX0_levels 3 (some .int) :: gU)) := gu_U u_917 u_920 u_921 u_918 u_73 u_941
theorem gc_UX3_RX11_244_X0_isOfKind : GoodIn gU (va_wsU RX11 244 RX3 "ChiefGrades$Chief" ⟨"ChiefGrades$Chief", "isOfKind", "(I)Z"⟩ yX0_isOfKind (.code yX0_isOfKind cX0_isOfKind 2 (some .boolean) :: gU)) := gu_U u_951 u_954 u_955 u_952 u_73 u_961
theorem gc_UX3_RX1_67_X0_seen : GoodIn gU (va_wsU RX1 67 RX3 "ChiefGrades$Chief" ⟨"ChiefGrades$Chief", "seen", "(II)I"⟩ yX0_seen (.code yX0_seen cX0_seen 3 (some .int) :: gU)) := gu_U u_627 u_630 u_631 u_628 u_73 u_639
theorem gc_UX3_RX1_74_X0_favour : GoodIn gU (va_wsU RX1 74 RX3 "ChiefGrades$Chief" ⟨"ChiefGrades$Chief", "favour", "(I)I"⟩ yX0_favour (.code yX0_favour cX0_favour 2 (some .int) :: gU)) := gu_U u_640 u_643 u_644 u_641 u_73 u_660
theorem gc_UX4_RX0_49_X0_works : GoodIn gU (va_wsU RX0 49 RX4 "ChiefGrades$Chief" ⟨"ChiefGrades$Chief", "works", "(ILChiefGrades$Trace;)I"⟩ yX0_works (.code yX0_works cX0_works 3 (some .int) :: gU)) := gu_U u_916 u_873 u_884 u_871 u_73 u_893
theorem gc_UX4_RX0_53_X0_grades : GoodIn gU (va_wsU RX0 53 RX4 "ChiefGrades$Chief" ⟨"ChiefGrades$Chief", "grades", "(ILChiefGrades$Trace;)I"⟩ yX0_grades (.code yX0_grades cX0_grades 3 (some .int) :: gU)) := gu_U u_942 u_898 u_904 u_896 u_73 u_915
theorem gc_UX4_RX11_231_X0_works : GoodIn gU (va_wsU RX11 231 RX4 "ChiefGrades$Chief" ⟨"ChiefGrades$Chief", "works", "(ILChiefGrades$Trace;)I"⟩ yX0_works (.code yX0_works cX0_works 3 (some .int) :: gU)) := gu_U u_870 u_873 u_884 u_871 u_73 u_893
theorem gc_UX4_RX11_235_X0_grades : GoodIn gU (va_wsU RX11 235 RX4 "ChiefGrades$Chief" ⟨"ChiefGrades$Chief", "grades", "(ILChiefGrades$Trace;)I"⟩ yX0_grades (.code yX0_grades cX0_grades 3 (some .int) :: gU)) := gu_U u_895 u_898 u_904 u_896 u_73 u_915
theorem gc_UX4_RX11_244_X0_isOfKind : GoodIn gU (va_wsU RX11 244 RX4 "ChiefGrades$Chief" ⟨"ChiefGrades$Chief", "isOfKind", "(I)Z"⟩ yX0_isOfKind (.code yX0_isOfKind cX0_isOfKind 2 (some .boolean) :: gU)) := gu_U u_951 u_954 u_956 u_952 u_73 u_961
theorem gc_UX4_RX1_143_X0_lineUp : GoodIn gU (va_wsU RX1 143 RX4 "ChiefGrades$Chief" ⟨"ChiefGrades$Chief", "lineUp", "([III[I)V"⟩ yX0_lineUp (.code yX0_lineUp cX0_lineUp 5 none :: gU)) := gu_U u_695 u_698 u_705 u_696 u_73 u_710
theorem gc_UX4_RX1_74_X0_favour : GoodIn gU (va_wsU RX1 74 RX4 "ChiefGrades$Chief" ⟨"ChiefGrades$Chief", "favour", "(I)I"⟩ yX0_favour (.code yX0_favour cX0_favour 2 (some .int) :: gU)) := gu_U u_640 u_643 u_645 u_641 u_73 u_660
theorem gc_UX5_RX0_53_X0_grades : GoodIn gU (va_wsU RX0 53 RX5 "ChiefGrades$Chief" ⟨"ChiefGrades$Chief", "grades", "(ILChiefGrades$Trace;)I"⟩ yX0_grades (.code yX0_grades cX0_grades 3 (some .int) :: gU)) := gu_U u_942 u_898 u_905 u_896 u_73 u_915
theorem gc_UX5_RX11_235_X0_grades : GoodIn gU (va_wsU RX11 235 RX5 "ChiefGrades$Chief" ⟨"ChiefGrades$Chief", "grades", "(ILChiefGrades$Trace;)I"⟩ yX0_grades (.code yX0_grades cX0_grades 3 (some .int) :: gU)) := gu_U u_895 u_898 u_905 u_896 u_73 u_915
theorem gc_UX5_RX11_238_X0_levels : GoodIn gU (va_wsU RX11 238 RX5 "ChiefGrades$Chief" ⟨"ChiefGrades$Chief", "levels", "(ILChiefGrades$Trace;)I"⟩ yX0_levels (.code yX0_levels cX0_levels 3 (some .int) :: gU)) := gu_U u_917 u_920 u_927 u_918 u_73 u_941
theorem gc_UX5_RX11_244_X0_isOfKind : GoodIn gU (va_wsU RX11 244 RX5 "ChiefGrades$Chief" ⟨"ChiefGrades$Chief", "isOfKind", "(I)Z"⟩ yX0_isOfKind (.code yX0_isOfKind cX0_isOfKind 2 (some .boolean) :: gU)) := gu_U u_951 u_954 u_957 u_952 u_73 u_961
theorem gc_UX5_RX1_143_X0_lineUp : GoodIn gU (va_wsU RX1 143 RX5 "ChiefGrades$Chief" ⟨"ChiefGrades$Chief", "lineUp", "([III[I)V"⟩ yX0_lineUp (.code yX0_lineUp cX0_lineUp 5 none :: gU)) := gu_U u_695 u_698 u_706 u_696 u_73 u_710
theorem gc_UX5_RX1_67_X0_seen : GoodIn gU (va_wsU RX1 67 RX5 "ChiefGrades$Chief" ⟨"ChiefGrades$Chief", "seen", "(II)I"⟩ yX0_seen (.code yX0_seen cX0_seen 3 (some .int) :: gU)) := gu_U u_627 u_630 u_635 u_628 u_73 u_639
theorem gc_UX6_RX0_53_X0_grades : GoodIn gU (va_wsU RX0 53 RX6 "ChiefGrades$Chief" ⟨"ChiefGrades$Chief", "grades", "(ILChiefGrades$Trace;)I"⟩ yX0_grades (.code yX0_grades cX0_grades 3 (some .int) :: gU)) := gu_U u_942 u_898 u_906 u_896 u_73 u_915
theorem gc_UX6_RX11_235_X0_grades : GoodIn gU (va_wsU RX11 235 RX6 "ChiefGrades$Chief" ⟨"ChiefGrades$Chief", "grades", "(ILChiefGrades$Trace;)I"⟩ yX0_grades (.code yX0_grades cX0_grades 3 (some .int) :: gU)) := gu_U u_895 u_898 u_906 u_896 u_73 u_915
theorem gc_UX6_RX11_244_X0_isOfKind : GoodIn gU (va_wsU RX11 244 RX6 "ChiefGrades$Chief" ⟨"ChiefGrades$Chief", "isOfKind", "(I)Z"⟩ yX0_isOfKind (.code yX0_isOfKind cX0_isOfKind 2 (some .boolean) :: gU)) := gu_U u_951 u_954 u_958 u_952 u_73 u_961
theorem gc_UX6_RX1_143_X0_lineUp : GoodIn gU (va_wsU RX1 143 RX6 "ChiefGrades$Chief" ⟨"ChiefGrades$Chief", "lineUp", "([III[I)V"⟩ yX0_lineUp (.code yX0_lineUp cX0_lineUp 5 none :: gU)) := gu_U u_695 u_698 u_707 u_696 u_73 u_710
theorem gc_UX6_RX1_67_X0_seen : GoodIn gU (va_wsU RX1 67 RX6 "ChiefGrades$Chief" ⟨"ChiefGrades$Chief", "seen", "(II)I"⟩ yX0_seen (.code yX0_seen cX0_seen 3 (some .int) :: gU)) := gu_U u_627 u_630 u_636 u_628 u_73 u_639
theorem gc_UX6_RX6_32_X5_works : GoodIn gU (va_wsU RX6 32 RX6 "ChiefGrades$Lenient" ⟨"ChiefGrades$Near", "works", "(ILChiefGrades$Trace;)I"⟩ yX5_works (.code yX5_works cX5_works 3 (some .int) :: gU)) := gu_U u_935 u_936 u_938 u_886 u_81 u_887
theorem gc_UX7_RX0_49_X0_works : GoodIn gU (va_wsU RX0 49 RX7 "ChiefGrades$Chief" ⟨"ChiefGrades$Chief", "works", "(ILChiefGrades$Trace;)I"⟩ yX0_works (.code yX0_works cX0_works 3 (some .int) :: gU)) := gu_U u_916 u_873 u_891 u_871 u_73 u_893
theorem gc_UX7_RX11_231_X0_works : GoodIn gU (va_wsU RX11 231 RX7 "ChiefGrades$Chief" ⟨"ChiefGrades$Chief", "works", "(ILChiefGrades$Trace;)I"⟩ yX0_works (.code yX0_works cX0_works 3 (some .int) :: gU)) := gu_U u_870 u_873 u_891 u_871 u_73 u_893
theorem gc_UX7_RX11_244_X0_isOfKind : GoodIn gU (va_wsU RX11 244 RX7 "ChiefGrades$Chief" ⟨"ChiefGrades$Chief", "isOfKind", "(I)Z"⟩ yX0_isOfKind (.code yX0_isOfKind cX0_isOfKind 2 (some .boolean) :: gU)) := gu_U u_951 u_954 u_959 u_952 u_73 u_961
theorem gc_UX7_RX1_143_X0_lineUp : GoodIn gU (va_wsU RX1 143 RX7 "ChiefGrades$Chief" ⟨"ChiefGrades$Chief", "lineUp", "([III[I)V"⟩ yX0_lineUp (.code yX0_lineUp cX0_lineUp 5 none :: gU)) := gu_U u_695 u_698 u_708 u_696 u_73 u_710
theorem gc_UX9_RX0_49_X0_works : GoodIn gU (va_wsU RX0 49 RX9 "ChiefGrades$Chief" ⟨"ChiefGrades$Chief", "works", "(ILChiefGrades$Trace;)I"⟩ yX0_works (.code yX0_works cX0_works 3 (some .int) :: gU)) := gu_U u_916 u_873 u_892 u_871 u_73 u_893
theorem gc_UX9_RX11_231_X0_works : GoodIn gU (va_wsU RX11 231 RX9 "ChiefGrades$Chief" ⟨"ChiefGrades$Chief", "works", "(ILChiefGrades$Trace;)I"⟩ yX0_works (.code yX0_works cX0_works 3 (some .int) :: gU)) := gu_U u_870 u_873 u_892 u_871 u_73 u_893
theorem gc_UX9_RX11_238_X0_levels : GoodIn gU (va_wsU RX11 238 RX9 "ChiefGrades$Chief" ⟨"ChiefGrades$Chief", "levels", "(ILChiefGrades$Trace;)I"⟩ yX0_levels (.code yX0_levels cX0_levels 3 (some .int) :: gU)) := gu_U u_917 u_920 u_940 u_918 u_73 u_941
theorem gc_UX9_RX11_244_X0_isOfKind : GoodIn gU (va_wsU RX11 244 RX9 "ChiefGrades$Chief" ⟨"ChiefGrades$Chief", "isOfKind", "(I)Z"⟩ yX0_isOfKind (.code yX0_isOfKind cX0_isOfKind 2 (some .boolean) :: gU)) := gu_U u_951 u_954 u_960 u_952 u_73 u_961
theorem gc_UX9_RX1_67_X0_seen : GoodIn gU (va_wsU RX1 67 RX9 "ChiefGrades$Chief" ⟨"ChiefGrades$Chief", "seen", "(II)I"⟩ yX0_seen (.code yX0_seen cX0_seen 3 (some .int) :: gU)) := gu_U u_627 u_630 u_638 u_628 u_73 u_639
theorem gc_UX9_RX1_74_X0_favour : GoodIn gU (va_wsU RX1 74 RX9 "ChiefGrades$Chief" ⟨"ChiefGrades$Chief", "favour", "(I)I"⟩ yX0_favour (.code yX0_favour cX0_favour 2 (some .int) :: gU)) := gu_U u_640 u_643 u_659 u_641 u_73 u_660
theorem gc_V_RJ0_335_J0_coder_7d493 : GoodIn gU (wsV RJ0 335 RJ0 yJ0_coder_7d493 (.code yJ0_coder_7d493 cJ0_coder_7d493 1 (some .byte) :: gU)) := gu_V u_377 u_378 u_379 u_76 u_380
theorem gc_V_RJ0_492_J0_isLatin1_aae02 : GoodIn gU (wsV RJ0 492 RJ0 yJ0_isLatin1_aae02 (.code yJ0_isLatin1_aae02 cJ0_isLatin1_aae02 1 (some .boolean) :: gU)) := gu_V u_387 u_388 u_389 u_76 u_390
theorem gc_V_RJ0_505_J0_length_8abf5 : GoodIn gU (wsV RJ0 505 RJ0 yJ0_length_8abf5 (.code yJ0_length_8abf5 cJ0_length_8abf5 1 (some .int) :: gU)) := gu_V u_450 u_374 u_375 u_76 u_376
theorem gc_V_RJ0_633_J0_indexOf_7cf53 : GoodIn gU (wsV RJ0 633 RJ0 yJ0_indexOf_7cf53 (.code yJ0_indexOf_7cf53 cJ0_indexOf_7cf53 3 (some .int) :: gU)) := gu_V u_446 u_447 u_448 u_76 u_449
theorem gc_V_RX0_43_X8_begin : GoodIn gU (wsV RX0 43 RX8 yX8_begin (.code yX8_begin cX8_begin 2 none :: gU)) := gu_V u_894 u_878 u_879 u_74 u_880
theorem gc_V_RX0_49_X0_works : GoodIn gU (wsV RX0 49 RX0 yX0_works (.code yX0_works cX0_works 3 (some .int) :: gU)) := gu_V u_916 u_871 u_872 u_73 u_893
theorem gc_V_RX0_53_X0_grades : GoodIn gU (wsV RX0 53 RX0 yX0_grades (.code yX0_grades cX0_grades 3 (some .int) :: gU)) := gu_V u_942 u_896 u_897 u_73 u_915
theorem gc_V_RX10_86_X10_hasWorker : GoodIn gU (wsV RX10 86 RX10 yX10_hasWorker (.code yX10_hasWorker cX10_hasWorker 2 (some .boolean) :: gU)) := gu_V u_803 u_605 u_606 u_69 u_607
theorem gc_V_RX11_101_X10_chiefAt : GoodIn gU (wsV RX11 101 RX10 yX10_chiefAt (.code yX10_chiefAt cX10_chiefAt 2 (some (.object "ChiefGrades$Chief")) :: gU)) := gu_V u_596 u_597 u_598 u_69 u_599
theorem gc_V_RX11_122_X10_hasWorker : GoodIn gU (wsV RX11 122 RX10 yX10_hasWorker (.code yX10_hasWorker cX10_hasWorker 2 (some .boolean) :: gU)) := gu_V u_604 u_605 u_606 u_69 u_607
theorem gc_V_RX11_126_X11_mark : GoodIn gU (wsV RX11 126 RX11 yX11_mark (.code yX11_mark cX11_mark 4 (some .int) :: gU)) := gu_V u_608 u_609 u_610 u_68 u_611
theorem gc_V_RX11_130_X1_gradeHad : GoodIn gU (wsV RX11 130 RX1 yX1_gradeHad (.code yX1_gradeHad cX1_gradeHad 4 (some .int) :: gU)) := gu_V u_665 u_666 u_667 u_72 u_668
theorem gc_V_RX11_134_X1_gradeDue : GoodIn gU (wsV RX11 134 RX1 yX1_gradeDue (.code yX1_gradeDue cX1_gradeDue 3 none :: gU)) := gu_V u_711 u_712 u_713 u_72 u_714
theorem gc_V_RX11_141_X1_gradeLevelled : GoodIn gU (wsV RX11 141 RX1 yX1_gradeLevelled (.code yX1_gradeLevelled cX1_gradeLevelled 7 none :: gU)) := gu_V u_715 u_716 u_717 u_72 u_718
theorem gc_V_RX11_152_X10_teamBits : GoodIn gU (wsV RX11 152 RX10 yX10_teamBits (.code yX10_teamBits cX10_teamBits 4 (some .int) :: gU)) := gu_V u_727 u_618 u_619 u_69 u_620
theorem gc_V_RX11_161_X1_markBy : GoodIn gU (wsV RX11 161 RX1 yX1_markBy (.code yX1_markBy cX1_markBy 4 (some .int) :: gU)) := gu_V u_612 u_613 u_614 u_72 u_615
theorem gc_V_RX11_171_X1_gradeAll : GoodIn gU (wsV RX11 171 RX1 yX1_gradeAll (.code yX1_gradeAll cX1_gradeAll 4 none :: gU)) := gu_V u_749 u_750 u_751 u_72 u_752
theorem gc_V_RX11_174_X11_gradeUnder : GoodIn gU (wsV RX11 174 RX11 yX11_gradeUnder (.code yX11_gradeUnder cX11_gradeUnder 3 (some .int) :: gU)) := gu_V u_757 u_759 u_15 u_68 u_760
theorem gc_V_RX11_185_X10_become : GoodIn gU (wsV RX11 185 RX10 yX10_become (.code yX10_become cX10_become 3 none :: gU)) := gu_V u_761 u_762 u_763 u_69 u_764
theorem gc_V_RX11_188_X11_bothGain : GoodIn gU (wsV RX11 188 RX11 yX11_bothGain (.code yX11_bothGain cX11_bothGain 4 (some .boolean) :: gU)) := gu_V u_779 u_781 u_16 u_68 u_782
theorem gc_V_RX11_191_X11_goYear : GoodIn gU (wsV RX11 191 RX11 yX11_goYear (.code yX11_goYear cX11_goYear 6 (some .int) :: gU)) := gu_V u_791 u_793 u_17 u_68 u_794
theorem gc_V_RX11_194_X10_worthTogether : GoodIn gU (wsV RX11 194 RX10 yX10_worthTogether (.code yX10_worthTogether cX10_worthTogether 3 (some .int) :: gU)) := gu_V u_812 u_813 u_814 u_69 u_815
theorem gc_V_RX11_219_X11_howManyNets : GoodIn gU (wsV RX11 219 RX11 yX11_howManyNets (.code yX11_howManyNets cX11_howManyNets 4 (some .int) :: gU)) := gu_V u_842 u_844 u_19 u_68 u_845
theorem gc_V_RX11_222_X11_netOf : GoodIn gU (wsV RX11 222 RX11 yX11_netOf (.code yX11_netOf cX11_netOf 4 (some .int) :: gU)) := gu_V u_846 u_848 u_20 u_68 u_849
theorem gc_V_RX11_225_X10_firstGrade : GoodIn gU (wsV RX11 225 RX10 yX10_firstGrade (.code yX10_firstGrade cX10_firstGrade 4 (some .int) :: gU)) := gu_V u_858 u_859 u_860 u_69 u_861
theorem gc_V_RX11_231_X0_works : GoodIn gU (wsV RX11 231 RX0 yX0_works (.code yX0_works cX0_works 3 (some .int) :: gU)) := gu_V u_870 u_871 u_872 u_73 u_893
theorem gc_V_RX11_235_X0_grades : GoodIn gU (wsV RX11 235 RX0 yX0_grades (.code yX0_grades cX0_grades 3 (some .int) :: gU)) := gu_V u_895 u_896 u_897 u_73 u_915
theorem gc_V_RX11_238_X0_levels : GoodIn gU (wsV RX11 238 RX0 yX0_levels (.code yX0_levels cX0_levels 3 (some .int) :: gU)) := gu_V u_917 u_918 u_919 u_73 u_941
theorem gc_V_RX11_244_X0_isOfKind : GoodIn gU (wsV RX11 244 RX0 yX0_isOfKind (.code yX0_isOfKind cX0_isOfKind 2 (some .boolean) :: gU)) := gu_V u_951 u_952 u_953 u_73 u_961
theorem gc_V_RX11_251_X10_exchange : GoodIn gU (wsV RX11 251 RX10 yX10_exchange (.code yX10_exchange cX10_exchange 5 none :: gU)) := gu_V u_783 u_784 u_785 u_69 u_786
theorem gc_V_RX11_264_X11_outByGrade : GoodIn gU (wsV RX11 264 RX11 yX11_outByGrade (.code yX11_outByGrade cX11_outByGrade 3 none :: gU)) := gu_V u_804 u_806 u_18 u_68 u_807
theorem gc_V_RX11_267_X10_replace : GoodIn gU (wsV RX11 267 RX10 yX10_replace (.code yX10_replace cX10_replace 2 none :: gU)) := gu_V u_799 u_800 u_801 u_69 u_802
theorem gc_V_RX11_275_X11_neighbours : GoodIn gU (wsV RX11 275 RX11 yX11_neighbours (.code yX11_neighbours cX11_neighbours 5 (some .int) :: gU)) := gu_V u_850 u_852 u_21 u_68 u_853
theorem gc_V_RX12_104_X12_figures : GoodIn gU (wsV RX12 104 RX12 yX12_figures (.code yX12_figures cX12_figures 3 (some .int) :: gU)) := gu_V u_1081 u_1083 u_27 u_75 u_1084
theorem gc_V_RX12_107_X12_every : GoodIn gU (wsV RX12 107 RX12 yX12_every (.code yX12_every cX12_every 1 none :: gU)) := gu_V u_1089 u_1091 u_29 u_75 u_1092
theorem gc_V_RX12_110_X12_spells : GoodIn gU (wsV RX12 110 RX12 yX12_spells (.code yX12_spells cX12_spells 3 none :: gU)) := gu_V u_1071 u_1073 u_25 u_75 u_1074
theorem gc_V_RX12_116_X12_much : GoodIn gU (wsV RX12 116 RX12 yX12_much (.code yX12_much cX12_much 4 none :: gU)) := gu_V u_1067 u_1069 u_24 u_75 u_1070
theorem gc_V_RX12_124_X12_tellsHere : GoodIn gU (wsV RX12 124 RX12 yX12_tellsHere (.code yX12_tellsHere cX12_tellsHere 4 none :: gU)) := gu_V u_1109 u_1111 u_33 u_75 u_1112
theorem gc_V_RX12_131_X12_clauseHere : GoodIn gU (wsV RX12 131 RX12 yX12_clauseHere (.code yX12_clauseHere cX12_clauseHere 1 none :: gU)) := gu_V u_1058 u_1060 u_22 u_75 u_1061
theorem gc_V_RX12_134_X12_tellsOf : GoodIn gU (wsV RX12 134 RX12 yX12_tellsOf (.code yX12_tellsOf cX12_tellsOf 3 (some .int) :: gU)) := gu_V u_1119 u_1121 u_34 u_75 u_1122
theorem gc_V_RX12_138_X12_isChief : GoodIn gU (wsV RX12 138 RX12 yX12_isChief (.code yX12_isChief cX12_isChief 2 (some .boolean) :: gU)) := gu_V u_1131 u_1133 u_35 u_75 u_1134
theorem gc_V_RX12_142_X12_teamOf : GoodIn gU (wsV RX12 142 RX12 yX12_teamOf (.code yX12_teamOf cX12_teamOf 4 (some .int) :: gU)) := gu_V u_1139 u_1141 u_36 u_75 u_1142
theorem gc_V_RX12_146_X12_isWorker : GoodIn gU (wsV RX12 146 RX12 yX12_isWorker (.code yX12_isWorker cX12_isWorker 2 (some .boolean) :: gU)) := gu_V u_1147 u_1149 u_37 u_75 u_1150
theorem gc_V_RX12_149_X12_moreOf : GoodIn gU (wsV RX12 149 RX12 yX12_moreOf (.code yX12_moreOf cX12_moreOf 12 (some .int) :: gU)) := gu_V u_1167 u_1169 u_39 u_75 u_1170
theorem gc_V_RX12_158_X12_inTeam : GoodIn gU (wsV RX12 158 RX12 yX12_inTeam (.code yX12_inTeam cX12_inTeam 3 (some .int) :: gU)) := gu_V u_1190 u_1192 u_43 u_75 u_1193
theorem gc_V_RX12_161_X12_turnsOnes : GoodIn gU (wsV RX12 161 RX12 yX12_turnsOnes (.code yX12_turnsOnes cX12_turnsOnes 8 none :: gU)) := gu_V u_1202 u_1204 u_46 u_75 u_1205
theorem gc_V_RX12_165_X12_givesOnes : GoodIn gU (wsV RX12 165 RX12 yX12_givesOnes (.code yX12_givesOnes cX12_givesOnes 6 none :: gU)) := gu_V u_1206 u_1208 u_47 u_75 u_1209
theorem gc_V_RX12_169_X12_told : GoodIn gU (wsV RX12 169 RX12 yX12_told (.code yX12_told cX12_told 2 (some .int) :: gU)) := gu_V u_1185 u_1116 u_1117 u_75 u_1118
theorem gc_V_RX12_172_X12_shareOf : GoodIn gU (wsV RX12 172 RX12 yX12_shareOf (.code yX12_shareOf cX12_shareOf 2 (some .int) :: gU)) := gu_V u_1186 u_1188 u_42 u_75 u_1189
theorem gc_V_RX12_175_X12_givesFives : GoodIn gU (wsV RX12 175 RX12 yX12_givesFives (.code yX12_givesFives cX12_givesFives 7 none :: gU)) := gu_V u_1194 u_1196 u_44 u_75 u_1197
theorem gc_V_RX12_178_X12_onesBy : GoodIn gU (wsV RX12 178 RX12 yX12_onesBy (.code yX12_onesBy cX12_onesBy 4 none :: gU)) := gu_V u_1198 u_1200 u_45 u_75 u_1201
theorem gc_V_RX12_182_X12_markOf : GoodIn gU (wsV RX12 182 RX12 yX12_markOf (.code yX12_markOf cX12_markOf 8 (some .int) :: gU)) := gu_V u_1163 u_1165 u_38 u_75 u_1166
theorem gc_V_RX12_185_X12_gradesTeam : GoodIn gU (wsV RX12 185 RX12 yX12_gradesTeam (.code yX12_gradesTeam cX12_gradesTeam 3 none :: gU)) := gu_V u_1178 u_1180 u_41 u_75 u_1181
theorem gc_V_RX12_188_X12_meanOf : GoodIn gU (wsV RX12 188 RX12 yX12_meanOf (.code yX12_meanOf cX12_meanOf 6 (some .int) :: gU)) := gu_V u_1218 u_1220 u_50 u_75 u_1221
theorem gc_V_RX12_191_X12_gradesAll : GoodIn gU (wsV RX12 191 RX12 yX12_gradesAll (.code yX12_gradesAll cX12_gradesAll 2 none :: gU)) := gu_V u_1174 u_1176 u_40 u_75 u_1177
theorem gc_V_RX12_194_X12_duesAll : GoodIn gU (wsV RX12 194 RX12 yX12_duesAll (.code yX12_duesAll cX12_duesAll 2 none :: gU)) := gu_V u_1210 u_1212 u_48 u_75 u_1213
theorem gc_V_RX12_197_X12_levelsAll : GoodIn gU (wsV RX12 197 RX12 yX12_levelsAll (.code yX12_levelsAll cX12_levelsAll 3 none :: gU)) := gu_V u_1214 u_1216 u_49 u_75 u_1217
theorem gc_V_RX12_200_X12_movedOf : GoodIn gU (wsV RX12 200 RX12 yX12_movedOf (.code yX12_movedOf cX12_movedOf 4 (some .int) :: gU)) := gu_V u_1234 u_1236 u_51 u_75 u_1237
theorem gc_V_RX12_203_X12_changes : GoodIn gU (wsV RX12 203 RX12 yX12_changes (.code yX12_changes cX12_changes 5 none :: gU)) := gu_V u_1250 u_1252 u_52 u_75 u_1253
theorem gc_V_RX12_206_X12_newOne : GoodIn gU (wsV RX12 206 RX12 yX12_newOne (.code yX12_newOne cX12_newOne 2 none :: gU)) := gu_V u_1262 u_1264 u_54 u_75 u_1265
theorem gc_V_RX12_209_X12_yearGoes : GoodIn gU (wsV RX12 209 RX12 yX12_yearGoes (.code yX12_yearGoes cX12_yearGoes 7 (some .int) :: gU)) := gu_V u_1258 u_1260 u_53 u_75 u_1261
theorem gc_V_RX12_212_X12_keeps : GoodIn gU (wsV RX12 212 RX12 yX12_keeps (.code yX12_keeps cX12_keeps 2 none :: gU)) := gu_V u_1270 u_1272 u_55 u_75 u_1273
theorem gc_V_RX12_215_X12_goesBack : GoodIn gU (wsV RX12 215 RX12 yX12_goesBack (.code yX12_goesBack cX12_goesBack 2 none :: gU)) := gu_V u_1274 u_1276 u_56 u_75 u_1277
theorem gc_V_RX12_232_X12_firstRow : GoodIn gU (wsV RX12 232 RX12 yX12_firstRow (.code yX12_firstRow cX12_firstRow 4 (some .int) :: gU)) := gu_V u_1312 u_1314 u_59 u_75 u_1315
theorem gc_V_RX12_235_X12_haveBoth : GoodIn gU (wsV RX12 235 RX12 yX12_haveBoth (.code yX12_haveBoth cX12_haveBoth 5 (some .boolean) :: gU)) := gu_V u_1308 u_1310 u_58 u_75 u_1311
theorem gc_V_RX12_239_X12_netOf : GoodIn gU (wsV RX12 239 RX12 yX12_netOf (.code yX12_netOf cX12_netOf 6 (some .int) :: gU)) := gu_V u_1304 u_1306 u_57 u_75 u_1307
theorem gc_V_RX12_245_X12_ranBody : GoodIn gU (wsV RX12 245 RX12 yX12_ranBody (.code yX12_ranBody cX12_ranBody 2 none :: gU)) := gu_V u_1335 u_1337 u_61 u_75 u_1338
theorem gc_V_RX12_257_X12_plainWorks : GoodIn gU (wsV RX12 257 RX12 yX12_plainWorks (.code yX12_plainWorks cX12_plainWorks 2 (some .int) :: gU)) := gu_V u_1339 u_1341 u_62 u_75 u_1342
theorem gc_V_RX12_260_X12_worksActs : GoodIn gU (wsV RX12 260 RX12 yX12_worksActs (.code yX12_worksActs cX12_worksActs 2 (some .int) :: gU)) := gu_V u_1328 u_1330 u_60 u_75 u_1331
theorem gc_V_RX12_266_X12_plainGrades : GoodIn gU (wsV RX12 266 RX12 yX12_plainGrades (.code yX12_plainGrades cX12_plainGrades 2 (some .int) :: gU)) := gu_V u_1347 u_1349 u_64 u_75 u_1350
theorem gc_V_RX12_269_X12_gradesActs : GoodIn gU (wsV RX12 269 RX12 yX12_gradesActs (.code yX12_gradesActs cX12_gradesActs 2 (some .int) :: gU)) := gu_V u_1343 u_1345 u_63 u_75 u_1346
theorem gc_V_RX12_272_X12_plainLevels : GoodIn gU (wsV RX12 272 RX12 yX12_plainLevels (.code yX12_plainLevels cX12_plainLevels 2 (some .int) :: gU)) := gu_V u_1355 u_1357 u_66 u_75 u_1358
theorem gc_V_RX12_275_X12_levelsActs : GoodIn gU (wsV RX12 275 RX12 yX12_levelsActs (.code yX12_levelsActs cX12_levelsActs 3 (some .int) :: gU)) := gu_V u_1351 u_1353 u_65 u_75 u_1354
theorem gc_V_RX12_64_X12_here : GoodIn gU (wsV RX12 64 RX12 yX12_here (.code yX12_here cX12_here 1 (some .int) :: gU)) := gu_V u_1062 u_1064 u_23 u_75 u_1065
theorem gc_V_RX12_68_J0_length_8abf5 : GoodIn gU (wsV RX12 68 RJ0 yJ0_length_8abf5 (.code yJ0_length_8abf5 cJ0_length_8abf5 1 (some .int) :: gU)) := gu_V u_1075 u_374 u_375 u_76 u_376
theorem gc_V_RX12_73_J0_charAt_5068e : GoodIn gU (wsV RX12 73 RJ0 yJ0_charAt_5068e (.code yJ0_charAt_5068e cJ0_charAt_5068e 2 (some .char) :: gU)) := gu_V u_1076 u_384 u_385 u_76 u_386
theorem gc_V_RX12_77_X12_must : GoodIn gU (wsV RX12 77 RX12 yX12_must (.code yX12_must cX12_must 2 none :: gU)) := gu_V u_1077 u_1079 u_26 u_75 u_1080
theorem gc_V_RX12_87_X12_factor : GoodIn gU (wsV RX12 87 RX12 yX12_factor (.code yX12_factor cX12_factor 5 none :: gU)) := gu_V u_1093 u_1095 u_30 u_75 u_1096
theorem gc_V_RX12_90_X12_emits : GoodIn gU (wsV RX12 90 RX12 yX12_emits (.code yX12_emits cX12_emits 2 none :: gU)) := gu_V u_1097 u_1099 u_31 u_75 u_1100
theorem gc_V_RX12_93_X12_some : GoodIn gU (wsV RX12 93 RX12 yX12_some (.code yX12_some cX12_some 1 none :: gU)) := gu_V u_1085 u_1087 u_28 u_75 u_1088
theorem gc_V_RX12_98_X12_among : GoodIn gU (wsV RX12 98 RX12 yX12_among (.code yX12_among cX12_among 3 (some .int) :: gU)) := gu_V u_1102 u_1104 u_32 u_75 u_1105
theorem gc_V_RX1_101_X1_gather : GoodIn gU (wsV RX1 101 RX1 yX1_gather (.code yX1_gather cX1_gather 3 none :: gU)) := gu_V u_674 u_676 u_10 u_72 u_677
theorem gc_V_RX1_105_X1_markTeam : GoodIn gU (wsV RX1 105 RX1 yX1_markTeam (.code yX1_markTeam cX1_markTeam 4 none :: gU)) := gu_V u_678 u_680 u_11 u_72 u_681
theorem gc_V_RX1_109_X1_share : GoodIn gU (wsV RX1 109 RX1 yX1_share (.code yX1_share cX1_share 8 (some .int) :: gU)) := gu_V u_683 u_685 u_12 u_72 u_686
theorem gc_V_RX1_118_X1_meanOfTeam : GoodIn gU (wsV RX1 118 RX1 yX1_meanOfTeam (.code yX1_meanOfTeam cX1_meanOfTeam 3 (some .int) :: gU)) := gu_V u_719 u_721 u_14 u_72 u_722
theorem gc_V_RX1_122_X1_markBy : GoodIn gU (wsV RX1 122 RX1 yX1_markBy (.code yX1_markBy cX1_markBy 4 (some .int) :: gU)) := gu_V u_682 u_613 u_614 u_72 u_615
theorem gc_V_RX1_137_X1_rank : GoodIn gU (wsV RX1 137 RX1 yX1_rank (.code yX1_rank cX1_rank 6 none :: gU)) := gu_V u_688 u_690 u_13 u_72 u_691
theorem gc_V_RX1_143_X0_lineUp : GoodIn gU (wsV RX1 143 RX0 yX0_lineUp (.code yX0_lineUp cX0_lineUp 5 none :: gU)) := gu_V u_695 u_696 u_697 u_73 u_710
theorem gc_V_RX1_36_X10_hasWorker : GoodIn gU (wsV RX1 36 RX10 yX10_hasWorker (.code yX10_hasWorker cX10_hasWorker 2 (some .boolean) :: gU)) := gu_V u_616 u_605 u_606 u_69 u_607
theorem gc_V_RX1_55_X10_teamBits : GoodIn gU (wsV RX1 55 RX10 yX10_teamBits (.code yX10_teamBits cX10_teamBits 4 (some .int) :: gU)) := gu_V u_617 u_618 u_619 u_69 u_620
theorem gc_V_RX1_67_X0_seen : GoodIn gU (wsV RX1 67 RX0 yX0_seen (.code yX0_seen cX0_seen 3 (some .int) :: gU)) := gu_V u_627 u_628 u_629 u_73 u_639
theorem gc_V_RX1_74_X0_favour : GoodIn gU (wsV RX1 74 RX0 yX0_favour (.code yX0_favour cX0_favour 2 (some .int) :: gU)) := gu_V u_640 u_641 u_642 u_73 u_660
theorem gc_V_RX1_81_X2_raise : GoodIn gU (wsV RX1 81 RX2 yX2_raise (.code yX2_raise cX2_raise 9 (some .int) :: gU)) := gu_V u_661 u_662 u_663 u_70 u_664
theorem gc_V_RX1_90_X10_chiefAt : GoodIn gU (wsV RX1 90 RX10 yX10_chiefAt (.code yX10_chiefAt cX10_chiefAt 2 (some (.object "ChiefGrades$Chief")) :: gU)) := gu_V u_669 u_597 u_598 u_69 u_599
theorem gc_V_RX1_94_X1_gradeTeam : GoodIn gU (wsV RX1 94 RX1 yX1_gradeTeam (.code yX1_gradeTeam cX1_gradeTeam 3 (some .int) :: gU)) := gu_V u_670 u_671 u_672 u_72 u_673
theorem gc_V_RX2_104_J0_indexOf_0f7a4 : GoodIn gU (wsV RX2 104 RJ0 yJ0_indexOf_0f7a4 (.code yJ0_indexOf_0f7a4 cJ0_indexOf_0f7a4 2 (some .int) :: gU)) := gu_V u_442 u_443 u_444 u_76 u_445
theorem gc_V_RX2_110_J0_length_8abf5 : GoodIn gU (wsV RX2 110 RJ0 yJ0_length_8abf5 (.code yJ0_length_8abf5 cJ0_length_8abf5 1 (some .int) :: gU)) := gu_V u_373 u_374 u_375 u_76 u_376
theorem gc_V_RX2_113_J0_charAt_5068e : GoodIn gU (wsV RX2 113 RJ0 yJ0_charAt_5068e (.code yJ0_charAt_5068e cJ0_charAt_5068e 2 (some .char) :: gU)) := gu_V u_383 u_384 u_385 u_76 u_386
theorem gc_V_RX2_45_X2_sign : GoodIn gU (wsV RX2 45 RX2 yX2_sign (.code yX2_sign cX2_sign 1 (some .int) :: gU)) := gu_V u_360 u_362 u_0 u_70 u_363
theorem gc_V_RX2_51_X2_readGain : GoodIn gU (wsV RX2 51 RX2 yX2_readGain (.code yX2_readGain cX2_readGain 4 none :: gU)) := gu_V u_365 u_367 u_1 u_70 u_368
theorem gc_V_RX2_59_X2_readShare : GoodIn gU (wsV RX2 59 RX2 yX2_readShare (.code yX2_readShare cX2_readShare 2 (some .int) :: gU)) := gu_V u_503 u_505 u_9 u_70 u_506
theorem gc_V_RX2_74_X2_take : GoodIn gU (wsV RX2 74 RX2 yX2_take (.code yX2_take cX2_take 2 (some .boolean) :: gU)) := gu_V u_421 u_423 u_3 u_70 u_424
theorem gc_V_RX2_81_X2_takeAll : GoodIn gU (wsV RX2 81 RX2 yX2_takeAll (.code yX2_takeAll cX2_takeAll 3 none :: gU)) := gu_V u_369 u_371 u_2 u_70 u_372
theorem gc_V_RX2_85_X2_readNumber : GoodIn gU (wsV RX2 85 RX2 yX2_readNumber (.code yX2_readNumber cX2_readNumber 3 (some .int) :: gU)) := gu_V u_425 u_427 u_4 u_70 u_428
theorem gc_V_RX2_88_X2_readEither : GoodIn gU (wsV RX2 88 RX2 yX2_readEither (.code yX2_readEither cX2_readEither 3 none :: gU)) := gu_V u_429 u_431 u_5 u_70 u_432
theorem gc_V_RX2_92_X2_add : GoodIn gU (wsV RX2 92 RX2 yX2_add (.code yX2_add cX2_add 4 none :: gU)) := gu_V u_497 u_499 u_8 u_70 u_500
theorem gc_V_RX2_96_X2_readBoth : GoodIn gU (wsV RX2 96 RX2 yX2_readBoth (.code yX2_readBoth cX2_readBoth 3 none :: gU)) := gu_V u_433 u_435 u_6 u_70 u_436
theorem gc_V_RX2_99_X2_readPart : GoodIn gU (wsV RX2 99 RX2 yX2_readPart (.code yX2_readPart cX2_readPart 6 none :: gU)) := gu_V u_437 u_439 u_7 u_70 u_440
theorem gc_V_RX3_17_X8_begin : GoodIn gU (wsV RX3 17 RX8 yX8_begin (.code yX8_begin cX8_begin 2 none :: gU)) := gu_V u_877 u_878 u_879 u_74 u_880
theorem gc_V_RX4_13_X8_begin : GoodIn gU (wsV RX4 13 RX8 yX8_begin (.code yX8_begin cX8_begin 2 none :: gU)) := gu_V u_925 u_878 u_879 u_74 u_880
theorem gc_V_RX5_13_X8_begin : GoodIn gU (wsV RX5 13 RX8 yX8_begin (.code yX8_begin cX8_begin 2 none :: gU)) := gu_V u_888 u_878 u_879 u_74 u_880
theorem gc_V_RX6_22_X8_begin : GoodIn gU (wsV RX6 22 RX8 yX8_begin (.code yX8_begin cX8_begin 2 none :: gU)) := gu_V u_931 u_878 u_879 u_74 u_880
theorem gc_V_RX7_13_X8_begin : GoodIn gU (wsV RX7 13 RX8 yX8_begin (.code yX8_begin cX8_begin 2 none :: gU)) := gu_V u_910 u_878 u_879 u_74 u_880
theorem gc_V_RX9_7_X8_begin : GoodIn gU (wsV RX9 7 RX8 yX8_begin (.code yX8_begin cX8_begin 2 none :: gU)) := gu_V u_902 u_878 u_879 u_74 u_880
