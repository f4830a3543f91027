def wsX12_year_r3 : List Cond := [Cond.code yX12_markOf cX12_markOf 8 (some .int), Cond.methodLink RX12 149 yX12_moreOf, Cond.instanceMethod yX12_moreOf, Cond.selects RX12 yX12_moreOf yX12_moreOf, Cond.code yX12_moreOf cX12_moreOf 12 (some .int), Cond.fieldLink RX12 21 "ChiefGradesModel" "by" "[I", Cond.fieldLink RX12 24 "ChiefGradesModel" "truths" "[Z", Cond.methodLink RX12 142 yX12_teamOf, Cond.instanceMethod yX12_teamOf, Cond.selects RX12 yX12_teamOf yX12_teamOf, Cond.code yX12_teamOf cX12_teamOf 4 (some .int), Cond.methodLink RX12 152 yX12_size, Cond.static yX12_size, Cond.code yX12_size cX12_size 1 (some .int), Cond.methodLink RX12 185 yX12_gradesTeam, Cond.instanceMethod yX12_gradesTeam, Cond.selects RX12 yX12_gradesTeam yX12_gradesTeam, Cond.code yX12_gradesTeam cX12_gradesTeam 3 none, Cond.methodLink RX12 178 yX12_onesBy, Cond.instanceMethod yX12_onesBy, Cond.selects RX12 yX12_onesBy yX12_onesBy, Cond.code yX12_onesBy cX12_onesBy 4 none, Cond.methodLink RX12 161 yX12_turnsOnes, Cond.instanceMethod yX12_turnsOnes]
def wsX12_year_r4 : List Cond := [Cond.selects RX12 yX12_turnsOnes yX12_turnsOnes, Cond.code yX12_turnsOnes cX12_turnsOnes 8 none, Cond.methodLink RX12 206 yX12_newOne, Cond.instanceMethod yX12_newOne, Cond.selects RX12 yX12_newOne yX12_newOne, Cond.code yX12_newOne cX12_newOne 2 none]
def wsX12_year : List Cond := .code yX12_year cX12_year 1 (some .int) :: ((wsX12_year_r1 ++ (wsX12_year_r2 ++ (wsX12_year_r3 ++ wsX12_year_r4))) ++ wsX120)
def wsX12_years_r1 : List Cond := [Cond.fieldLink RX12 9 "ChiefGradesModel" "s" "[I", Cond.methodLink RX12 50 yX12_in, Cond.static yX12_in, Cond.initialized RX12, Cond.code yX12_in cX12_in 3 (some .boolean), Cond.methodLink RX12 146 yX12_isWorker, Cond.instanceMethod yX12_isWorker, Cond.selects RX12 yX12_isWorker yX12_isWorker, Cond.code yX12_isWorker cX12_isWorker 2 (some .boolean), Cond.methodLink RX12 212 yX12_keeps, Cond.instanceMethod yX12_keeps, Cond.selects RX12 yX12_keeps yX12_keeps, Cond.code yX12_keeps cX12_keeps 2 none, Cond.fieldLink RX12 18 "ChiefGradesModel" "frame" "[I", Cond.methodLink RX12 209 yX12_yearGoes, Cond.instanceMethod yX12_yearGoes, Cond.selects RX12 yX12_yearGoes yX12_yearGoes, Cond.code yX12_yearGoes cX12_yearGoes 7 (some .int), Cond.fieldLink RX12 34 "ChiefGradesModel" "dues" "[I", Cond.fieldLink RX12 31 "ChiefGradesModel" "grades" "[I", Cond.methodLink RX12 194 yX12_duesAll, Cond.instanceMethod yX12_duesAll, Cond.selects RX12 yX12_duesAll yX12_duesAll, Cond.code yX12_duesAll cX12_duesAll 2 none]
def wsX12_years_r2 : List Cond := [Cond.fieldLink RX12 37 "ChiefGradesModel" "isIn" "[Z", Cond.fieldLink RX12 28 "ChiefGradesModel" "marks" "[I", Cond.methodLink RX12 155 yX12_gradeBy, Cond.static yX12_gradeBy, Cond.code yX12_gradeBy cX12_gradeBy 1 (some .int), Cond.methodLink RX12 169 yX12_told, Cond.instanceMethod yX12_told, Cond.selects RX12 yX12_told yX12_told, Cond.code yX12_told cX12_told 2 (some .int), Cond.methodLink RX12 134 yX12_tellsOf, Cond.instanceMethod yX12_tellsOf, Cond.selects RX12 yX12_tellsOf yX12_tellsOf, Cond.code yX12_tellsOf cX12_tellsOf 3 (some .int), Cond.methodLink RX12 172 yX12_shareOf, Cond.instanceMethod yX12_shareOf, Cond.selects RX12 yX12_shareOf yX12_shareOf, Cond.code yX12_shareOf cX12_shareOf 2 (some .int), Cond.methodLink RX12 158 yX12_inTeam, Cond.instanceMethod yX12_inTeam, Cond.selects RX12 yX12_inTeam yX12_inTeam, Cond.code yX12_inTeam cX12_inTeam 3 (some .int), Cond.methodLink RX12 175 yX12_givesFives, Cond.instanceMethod yX12_givesFives, Cond.selects RX12 yX12_givesFives yX12_givesFives]
def wsX12_years_r3 : List Cond := [Cond.code yX12_givesFives cX12_givesFives 7 none, Cond.methodLink RX12 165 yX12_givesOnes, Cond.instanceMethod yX12_givesOnes, Cond.selects RX12 yX12_givesOnes yX12_givesOnes, Cond.code yX12_givesOnes cX12_givesOnes 6 none, Cond.methodLink RX12 191 yX12_gradesAll, Cond.instanceMethod yX12_gradesAll, Cond.selects RX12 yX12_gradesAll yX12_gradesAll, Cond.code yX12_gradesAll cX12_gradesAll 2 none, Cond.methodLink RX12 182 yX12_markOf, Cond.instanceMethod yX12_markOf, Cond.selects RX12 yX12_markOf yX12_markOf, Cond.code yX12_markOf cX12_markOf 8 (some .int), Cond.methodLink RX12 149 yX12_moreOf, Cond.instanceMethod yX12_moreOf, Cond.selects RX12 yX12_moreOf yX12_moreOf, Cond.code yX12_moreOf cX12_moreOf 12 (some .int), Cond.fieldLink RX12 21 "ChiefGradesModel" "by" "[I", Cond.fieldLink RX12 24 "ChiefGradesModel" "truths" "[Z", Cond.methodLink RX12 142 yX12_teamOf, Cond.instanceMethod yX12_teamOf, Cond.selects RX12 yX12_teamOf yX12_teamOf, Cond.code yX12_teamOf cX12_teamOf 4 (some .int), Cond.methodLink RX12 152 yX12_size]
def wsX12_years_r4 : List Cond := [Cond.static yX12_size, Cond.code yX12_size cX12_size 1 (some .int), Cond.methodLink RX12 185 yX12_gradesTeam, Cond.instanceMethod yX12_gradesTeam, Cond.selects RX12 yX12_gradesTeam yX12_gradesTeam, Cond.code yX12_gradesTeam cX12_gradesTeam 3 none, Cond.methodLink RX12 178 yX12_onesBy, Cond.instanceMethod yX12_onesBy, Cond.selects RX12 yX12_onesBy yX12_onesBy, Cond.code yX12_onesBy cX12_onesBy 4 none, Cond.methodLink RX12 161 yX12_turnsOnes, Cond.instanceMethod yX12_turnsOnes, Cond.selects RX12 yX12_turnsOnes yX12_turnsOnes, Cond.code yX12_turnsOnes cX12_turnsOnes 8 none, Cond.methodLink RX12 206 yX12_newOne, Cond.instanceMethod yX12_newOne, Cond.selects RX12 yX12_newOne yX12_newOne, Cond.code yX12_newOne cX12_newOne 2 none, Cond.methodLink RX12 215 yX12_goesBack, Cond.instanceMethod yX12_goesBack, Cond.selects RX12 yX12_goesBack yX12_goesBack, Cond.code yX12_goesBack cX12_goesBack 2 none]
def wsX12_years : List Cond := .code yX12_years cX12_years 7 (some .int) :: ((wsX12_years_r1 ++ (wsX12_years_r2 ++ (wsX12_years_r3 ++ wsX12_years_r4))) ++ wsX120)
def wsX12_chooses : List Cond := .code yX12_chooses cX12_chooses 5 (some .long) :: ([])
def wsX12_divisor : List Cond := .code yX12_divisor cX12_divisor 10 (some .long) :: ([])
def wsX12_lowest : List Cond := .code yX12_lowest cX12_lowest 5 (some .long) :: ([.methodLink RX12 218 yX12_divisor, .static yX12_divisor, .initialized RX12, .code yX12_divisor cX12_divisor 10 (some .long)])
def wsX12_chance : List Cond := .code yX12_chance cX12_chance 6 (some .long) :: ([.constantLong RX12 222 (-9223372036854775808), .methodLink RX12 50 yX12_in, .static yX12_in, .initialized RX12, .code yX12_in cX12_in 3 (some .boolean), .methodLink RX12 224 yX12_chooses, .static yX12_chooses, .code yX12_chooses cX12_chooses 5 (some .long), .methodLink RX12 228 yX12_lowest, .static yX12_lowest, .code yX12_lowest cX12_lowest 5 (some .long), .methodLink RX12 218 yX12_divisor, .static yX12_divisor, .code yX12_divisor cX12_divisor 10 (some .long)])
def wsX12_book : List Cond := .code yX12_book cX12_book 5 (some .int) :: ([.fieldLink RX12 9 "ChiefGradesModel" "s" "[I", .methodLink RX12 146 yX12_isWorker, .instanceMethod yX12_isWorker, .selects RX12 yX12_isWorker yX12_isWorker, .initialized RX12, .code yX12_isWorker cX12_isWorker 2 (some .boolean), .methodLink RX12 50 yX12_in, .static yX12_in, .code yX12_in cX12_in 3 (some .boolean), .methodLink RX12 138 yX12_isChief, .instanceMethod yX12_isChief, .selects RX12 yX12_isChief yX12_isChief, .code yX12_isChief cX12_isChief 2 (some .boolean)] ++ wsX120)
def wsX12_clear : List Cond := .code yX12_clear cX12_clear 2 (some .int) :: ([.fieldLink RX12 9 "ChiefGradesModel" "s" "[I"] ++ wsX120)
def wsX12_firstRow : List Cond := .code yX12_firstRow cX12_firstRow 4 (some .int) :: ([.fieldLink RX12 9 "ChiefGradesModel" "s" "[I"] ++ wsX120)
def wsX12_haveBoth : List Cond := .code yX12_haveBoth cX12_haveBoth 5 (some .boolean) :: ([.fieldLink RX12 9 "ChiefGradesModel" "s" "[I", .methodLink RX12 232 yX12_firstRow, .instanceMethod yX12_firstRow, .selects RX12 yX12_firstRow yX12_firstRow, .initialized RX12, .code yX12_firstRow cX12_firstRow 4 (some .int)] ++ wsX120)
def wsX12_netOf : List Cond := .code yX12_netOf cX12_netOf 6 (some .int) :: ([.fieldLink RX12 9 "ChiefGradesModel" "s" "[I", .methodLink RX12 235 yX12_haveBoth, .instanceMethod yX12_haveBoth, .selects RX12 yX12_haveBoth yX12_haveBoth, .initialized RX12, .code yX12_haveBoth cX12_haveBoth 5 (some .boolean), .methodLink RX12 232 yX12_firstRow, .instanceMethod yX12_firstRow, .selects RX12 yX12_firstRow yX12_firstRow, .code yX12_firstRow cX12_firstRow 4 (some .int)] ++ wsX120)
def wsX12_nets : List Cond := .code yX12_nets cX12_nets 4 (some .int) :: ([.fieldLink RX12 9 "ChiefGradesModel" "s" "[I", .methodLink RX12 50 yX12_in, .static yX12_in, .initialized RX12, .code yX12_in cX12_in 3 (some .boolean), .methodLink RX12 239 yX12_netOf, .instanceMethod yX12_netOf, .selects RX12 yX12_netOf yX12_netOf, .code yX12_netOf cX12_netOf 6 (some .int), .methodLink RX12 235 yX12_haveBoth, .instanceMethod yX12_haveBoth, .selects RX12 yX12_haveBoth yX12_haveBoth, .code yX12_haveBoth cX12_haveBoth 5 (some .boolean), .methodLink RX12 232 yX12_firstRow, .instanceMethod yX12_firstRow, .selects RX12 yX12_firstRow yX12_firstRow, .code yX12_firstRow cX12_firstRow 4 (some .int)] ++ wsX120)
def wsX12_leans : List Cond := .code yX12_leans cX12_leans 9 (some .long) :: ([.constantLong RX12 222 (-9223372036854775808), .fieldLink RX12 9 "ChiefGradesModel" "s" "[I", .methodLink RX12 138 yX12_isChief, .instanceMethod yX12_isChief, .selects RX12 yX12_isChief yX12_isChief, .initialized RX12, .code yX12_isChief cX12_isChief 2 (some .boolean), .methodLink RX12 50 yX12_in, .static yX12_in, .code yX12_in cX12_in 3 (some .boolean), .methodLink RX12 232 yX12_firstRow, .instanceMethod yX12_firstRow, .selects RX12 yX12_firstRow yX12_firstRow, .code yX12_firstRow cX12_firstRow 4 (some .int), .methodLink RX12 228 yX12_lowest, .static yX12_lowest, .code yX12_lowest cX12_lowest 5 (some .long), .methodLink RX12 218 yX12_divisor, .static yX12_divisor, .code yX12_divisor cX12_divisor 10 (some .long)] ++ wsX120)
def wsX12_looked_r1 : List Cond := [Cond.fieldLink RX12 9 "ChiefGradesModel" "s" "[I", Cond.methodLink RX12 200 yX12_movedOf, Cond.instanceMethod yX12_movedOf, Cond.selects RX12 yX12_movedOf yX12_movedOf, Cond.initialized RX12, Cond.code yX12_movedOf cX12_movedOf 4 (some .int), Cond.fieldLink RX12 31 "ChiefGradesModel" "grades" "[I", Cond.methodLink RX12 191 yX12_gradesAll, Cond.instanceMethod yX12_gradesAll, Cond.selects RX12 yX12_gradesAll yX12_gradesAll, Cond.code yX12_gradesAll cX12_gradesAll 2 none, Cond.fieldLink RX12 28 "ChiefGradesModel" "marks" "[I", Cond.methodLink RX12 182 yX12_markOf, Cond.instanceMethod yX12_markOf, Cond.selects RX12 yX12_markOf yX12_markOf, Cond.code yX12_markOf cX12_markOf 8 (some .int), Cond.methodLink RX12 149 yX12_moreOf, Cond.instanceMethod yX12_moreOf, Cond.selects RX12 yX12_moreOf yX12_moreOf, Cond.code yX12_moreOf cX12_moreOf 12 (some .int), Cond.fieldLink RX12 21 "ChiefGradesModel" "by" "[I", Cond.fieldLink RX12 24 "ChiefGradesModel" "truths" "[Z", Cond.methodLink RX12 142 yX12_teamOf, Cond.instanceMethod yX12_teamOf]
def wsX12_looked_r2 : List Cond := [Cond.selects RX12 yX12_teamOf yX12_teamOf, Cond.code yX12_teamOf cX12_teamOf 4 (some .int), Cond.methodLink RX12 134 yX12_tellsOf, Cond.instanceMethod yX12_tellsOf, Cond.selects RX12 yX12_tellsOf yX12_tellsOf, Cond.code yX12_tellsOf cX12_tellsOf 3 (some .int), Cond.methodLink RX12 152 yX12_size, Cond.static yX12_size, Cond.code yX12_size cX12_size 1 (some .int), Cond.methodLink RX12 185 yX12_gradesTeam, Cond.instanceMethod yX12_gradesTeam, Cond.selects RX12 yX12_gradesTeam yX12_gradesTeam, Cond.code yX12_gradesTeam cX12_gradesTeam 3 none, Cond.fieldLink RX12 37 "ChiefGradesModel" "isIn" "[Z", Cond.methodLink RX12 155 yX12_gradeBy, Cond.static yX12_gradeBy, Cond.code yX12_gradeBy cX12_gradeBy 1 (some .int), Cond.methodLink RX12 169 yX12_told, Cond.instanceMethod yX12_told, Cond.selects RX12 yX12_told yX12_told, Cond.code yX12_told cX12_told 2 (some .int), Cond.methodLink RX12 172 yX12_shareOf, Cond.instanceMethod yX12_shareOf, Cond.selects RX12 yX12_shareOf yX12_shareOf]
def wsX12_looked_r3 : List Cond := [Cond.code yX12_shareOf cX12_shareOf 2 (some .int), Cond.methodLink RX12 158 yX12_inTeam, Cond.instanceMethod yX12_inTeam, Cond.selects RX12 yX12_inTeam yX12_inTeam, Cond.code yX12_inTeam cX12_inTeam 3 (some .int), Cond.methodLink RX12 175 yX12_givesFives, Cond.instanceMethod yX12_givesFives, Cond.selects RX12 yX12_givesFives yX12_givesFives, Cond.code yX12_givesFives cX12_givesFives 7 none, Cond.methodLink RX12 178 yX12_onesBy, Cond.instanceMethod yX12_onesBy, Cond.selects RX12 yX12_onesBy yX12_onesBy, Cond.code yX12_onesBy cX12_onesBy 4 none, Cond.methodLink RX12 161 yX12_turnsOnes, Cond.instanceMethod yX12_turnsOnes, Cond.selects RX12 yX12_turnsOnes yX12_turnsOnes, Cond.code yX12_turnsOnes cX12_turnsOnes 8 none, Cond.methodLink RX12 165 yX12_givesOnes, Cond.instanceMethod yX12_givesOnes, Cond.selects RX12 yX12_givesOnes yX12_givesOnes, Cond.code yX12_givesOnes cX12_givesOnes 6 none]
def wsX12_looked : List Cond := .code yX12_looked cX12_looked 2 (some .int) :: ((wsX12_looked_r1 ++ (wsX12_looked_r2 ++ wsX12_looked_r3)) ++ wsX120)
def wsX12_ranBody : List Cond := .code yX12_ranBody cX12_ranBody 2 none :: ([.fieldLink RX12 242 "ChiefGradesModel" "ran" "I", .fieldLink RX12 43 "ChiefGradesModel" "bodies" "[I"] ++ wsX120)
def wsX12_isUnder : List Cond := .code yX12_isUnder cX12_isUnder 2 (some .boolean) :: ([])
def wsX12_plainWorks : List Cond := .code yX12_plainWorks cX12_plainWorks 2 (some .int) :: ([.fieldLink RX12 248 "ChiefGradesModel" "number" "I", .methodLink RX12 245 yX12_ranBody, .instanceMethod yX12_ranBody, .selects RX12 yX12_ranBody yX12_ranBody, .initialized RX12, .code yX12_ranBody cX12_ranBody 2 none, .fieldLink RX12 242 "ChiefGradesModel" "ran" "I", .fieldLink RX12 43 "ChiefGradesModel" "bodies" "[I"] ++ wsX120)
def wsX12_worksActs : List Cond := .code yX12_worksActs cX12_worksActs 2 (some .int) :: ([.fieldLink RX12 251 "ChiefGradesModel" "kind" "I", .fieldLink RX12 248 "ChiefGradesModel" "number" "I", .methodLink RX12 254 yX12_isUnder, .static yX12_isUnder, .initialized RX12, .code yX12_isUnder cX12_isUnder 2 (some .boolean), .methodLink RX12 245 yX12_ranBody, .instanceMethod yX12_ranBody, .selects RX12 yX12_ranBody yX12_ranBody, .code yX12_ranBody cX12_ranBody 2 none, .fieldLink RX12 242 "ChiefGradesModel" "ran" "I", .fieldLink RX12 43 "ChiefGradesModel" "bodies" "[I", .methodLink RX12 257 yX12_plainWorks, .instanceMethod yX12_plainWorks, .selects RX12 yX12_plainWorks yX12_plainWorks, .code yX12_plainWorks cX12_plainWorks 2 (some .int)] ++ wsX120)
def wsX12_plainGrades : List Cond := .code yX12_plainGrades cX12_plainGrades 2 (some .int) :: ([.fieldLink RX12 263 "ChiefGradesModel" "tellsV" "I", .methodLink RX12 245 yX12_ranBody, .instanceMethod yX12_ranBody, .selects RX12 yX12_ranBody yX12_ranBody, .initialized RX12, .code yX12_ranBody cX12_ranBody 2 none, .fieldLink RX12 242 "ChiefGradesModel" "ran" "I", .fieldLink RX12 43 "ChiefGradesModel" "bodies" "[I", .methodLink RX12 260 yX12_worksActs, .instanceMethod yX12_worksActs, .selects RX12 yX12_worksActs yX12_worksActs, .code yX12_worksActs cX12_worksActs 2 (some .int), .fieldLink RX12 251 "ChiefGradesModel" "kind" "I", .fieldLink RX12 248 "ChiefGradesModel" "number" "I", .methodLink RX12 254 yX12_isUnder, .static yX12_isUnder, .code yX12_isUnder cX12_isUnder 2 (some .boolean), .methodLink RX12 257 yX12_plainWorks, .instanceMethod yX12_plainWorks, .selects RX12 yX12_plainWorks yX12_plainWorks, .code yX12_plainWorks cX12_plainWorks 2 (some .int)] ++ wsX120)
def wsX12_gradesActs_r1 : List Cond := [Cond.fieldLink RX12 251 "ChiefGradesModel" "kind" "I", Cond.fieldLink RX12 263 "ChiefGradesModel" "tellsV" "I", Cond.methodLink RX12 254 yX12_isUnder, Cond.static yX12_isUnder, Cond.initialized RX12, Cond.code yX12_isUnder cX12_isUnder 2 (some .boolean), Cond.methodLink RX12 245 yX12_ranBody, Cond.instanceMethod yX12_ranBody, Cond.selects RX12 yX12_ranBody yX12_ranBody, Cond.code yX12_ranBody cX12_ranBody 2 none, Cond.fieldLink RX12 242 "ChiefGradesModel" "ran" "I", Cond.fieldLink RX12 43 "ChiefGradesModel" "bodies" "[I", Cond.methodLink RX12 266 yX12_plainGrades, Cond.instanceMethod yX12_plainGrades, Cond.selects RX12 yX12_plainGrades yX12_plainGrades, Cond.code yX12_plainGrades cX12_plainGrades 2 (some .int), Cond.methodLink RX12 260 yX12_worksActs, Cond.instanceMethod yX12_worksActs, Cond.selects RX12 yX12_worksActs yX12_worksActs, Cond.code yX12_worksActs cX12_worksActs 2 (some .int), Cond.fieldLink RX12 248 "ChiefGradesModel" "number" "I", Cond.methodLink RX12 257 yX12_plainWorks, Cond.instanceMethod yX12_plainWorks, Cond.selects RX12 yX12_plainWorks yX12_plainWorks]
def wsX12_gradesActs_r2 : List Cond := [Cond.code yX12_plainWorks cX12_plainWorks 2 (some .int)]
def wsX12_gradesActs : List Cond := .code yX12_gradesActs cX12_gradesActs 2 (some .int) :: ((wsX12_gradesActs_r1 ++ wsX12_gradesActs_r2) ++ wsX120)
def wsX12_plainLevels_r1 : List Cond := [Cond.methodLink RX12 245 yX12_ranBody, Cond.instanceMethod yX12_ranBody, Cond.selects RX12 yX12_ranBody yX12_ranBody, Cond.initialized RX12, Cond.code yX12_ranBody cX12_ranBody 2 none, Cond.fieldLink RX12 242 "ChiefGradesModel" "ran" "I", Cond.fieldLink RX12 43 "ChiefGradesModel" "bodies" "[I", Cond.methodLink RX12 269 yX12_gradesActs, Cond.instanceMethod yX12_gradesActs, Cond.selects RX12 yX12_gradesActs yX12_gradesActs, Cond.code yX12_gradesActs cX12_gradesActs 2 (some .int), Cond.fieldLink RX12 251 "ChiefGradesModel" "kind" "I", Cond.fieldLink RX12 263 "ChiefGradesModel" "tellsV" "I", Cond.methodLink RX12 254 yX12_isUnder, Cond.static yX12_isUnder, Cond.code yX12_isUnder cX12_isUnder 2 (some .boolean), Cond.methodLink RX12 266 yX12_plainGrades, Cond.instanceMethod yX12_plainGrades, Cond.selects RX12 yX12_plainGrades yX12_plainGrades, Cond.code yX12_plainGrades cX12_plainGrades 2 (some .int), Cond.methodLink RX12 260 yX12_worksActs, Cond.instanceMethod yX12_worksActs, Cond.selects RX12 yX12_worksActs yX12_worksActs, Cond.code yX12_worksActs cX12_worksActs 2 (some .int)]
def wsX12_plainLevels_r2 : List Cond := [Cond.fieldLink RX12 248 "ChiefGradesModel" "number" "I", Cond.methodLink RX12 257 yX12_plainWorks, Cond.instanceMethod yX12_plainWorks, Cond.selects RX12 yX12_plainWorks yX12_plainWorks, Cond.code yX12_plainWorks cX12_plainWorks 2 (some .int)]
def wsX12_plainLevels : List Cond := .code yX12_plainLevels cX12_plainLevels 2 (some .int) :: ((wsX12_plainLevels_r1 ++ wsX12_plainLevels_r2) ++ wsX120)
def wsX12_levelsActs_r1 : List Cond := [Cond.fieldLink RX12 251 "ChiefGradesModel" "kind" "I", Cond.methodLink RX12 254 yX12_isUnder, Cond.static yX12_isUnder, Cond.initialized RX12, Cond.code yX12_isUnder cX12_isUnder 2 (some .boolean), Cond.methodLink RX12 245 yX12_ranBody, Cond.instanceMethod yX12_ranBody, Cond.selects RX12 yX12_ranBody yX12_ranBody, Cond.code yX12_ranBody cX12_ranBody 2 none, Cond.fieldLink RX12 242 "ChiefGradesModel" "ran" "I", Cond.fieldLink RX12 43 "ChiefGradesModel" "bodies" "[I", Cond.methodLink RX12 272 yX12_plainLevels, Cond.instanceMethod yX12_plainLevels, Cond.selects RX12 yX12_plainLevels yX12_plainLevels, Cond.code yX12_plainLevels cX12_plainLevels 2 (some .int), Cond.methodLink RX12 269 yX12_gradesActs, Cond.instanceMethod yX12_gradesActs, Cond.selects RX12 yX12_gradesActs yX12_gradesActs, Cond.code yX12_gradesActs cX12_gradesActs 2 (some .int), Cond.fieldLink RX12 263 "ChiefGradesModel" "tellsV" "I", Cond.methodLink RX12 266 yX12_plainGrades, Cond.instanceMethod yX12_plainGrades, Cond.selects RX12 yX12_plainGrades yX12_plainGrades, Cond.code yX12_plainGrades cX12_plainGrades 2 (some .int)]
def wsX12_levelsActs_r2 : List Cond := [Cond.methodLink RX12 260 yX12_worksActs, Cond.instanceMethod yX12_worksActs, Cond.selects RX12 yX12_worksActs yX12_worksActs, Cond.code yX12_worksActs cX12_worksActs 2 (some .int), Cond.fieldLink RX12 248 "ChiefGradesModel" "number" "I", Cond.methodLink RX12 257 yX12_plainWorks, Cond.instanceMethod yX12_plainWorks, Cond.selects RX12 yX12_plainWorks yX12_plainWorks, Cond.code yX12_plainWorks cX12_plainWorks 2 (some .int)]
def wsX12_levelsActs : List Cond := .code yX12_levelsActs cX12_levelsActs 3 (some .int) :: ((wsX12_levelsActs_r1 ++ wsX12_levelsActs_r2) ++ wsX120)
def wsX12_act_r1 : List Cond := [Cond.fieldLink RX12 242 "ChiefGradesModel" "ran" "I", Cond.fieldLink RX12 9 "ChiefGradesModel" "s" "[I", Cond.fieldLink RX12 251 "ChiefGradesModel" "kind" "I", Cond.fieldLink RX12 248 "ChiefGradesModel" "number" "I", Cond.fieldLink RX12 263 "ChiefGradesModel" "tellsV" "I", Cond.methodLink RX12 138 yX12_isChief, Cond.instanceMethod yX12_isChief, Cond.selects RX12 yX12_isChief yX12_isChief, Cond.initialized RX12, Cond.code yX12_isChief cX12_isChief 2 (some .boolean), Cond.methodLink RX12 50 yX12_in, Cond.static yX12_in, Cond.code yX12_in cX12_in 3 (some .boolean), Cond.methodLink RX12 260 yX12_worksActs, Cond.instanceMethod yX12_worksActs, Cond.selects RX12 yX12_worksActs yX12_worksActs, Cond.code yX12_worksActs cX12_worksActs 2 (some .int), Cond.methodLink RX12 254 yX12_isUnder, Cond.static yX12_isUnder, Cond.code yX12_isUnder cX12_isUnder 2 (some .boolean), Cond.methodLink RX12 245 yX12_ranBody, Cond.instanceMethod yX12_ranBody, Cond.selects RX12 yX12_ranBody yX12_ranBody, Cond.code yX12_ranBody cX12_ranBody 2 none]
def wsX12_act_r2 : List Cond := [Cond.fieldLink RX12 43 "ChiefGradesModel" "bodies" "[I", Cond.methodLink RX12 257 yX12_plainWorks, Cond.instanceMethod yX12_plainWorks, Cond.selects RX12 yX12_plainWorks yX12_plainWorks, Cond.code yX12_plainWorks cX12_plainWorks 2 (some .int), Cond.methodLink RX12 269 yX12_gradesActs, Cond.instanceMethod yX12_gradesActs, Cond.selects RX12 yX12_gradesActs yX12_gradesActs, Cond.code yX12_gradesActs cX12_gradesActs 2 (some .int), Cond.methodLink RX12 266 yX12_plainGrades, Cond.instanceMethod yX12_plainGrades, Cond.selects RX12 yX12_plainGrades yX12_plainGrades, Cond.code yX12_plainGrades cX12_plainGrades 2 (some .int), Cond.methodLink RX12 275 yX12_levelsActs, Cond.instanceMethod yX12_levelsActs, Cond.selects RX12 yX12_levelsActs yX12_levelsActs, Cond.code yX12_levelsActs cX12_levelsActs 3 (some .int), Cond.methodLink RX12 272 yX12_plainLevels, Cond.instanceMethod yX12_plainLevels, Cond.selects RX12 yX12_plainLevels yX12_plainLevels, Cond.code yX12_plainLevels cX12_plainLevels 2 (some .int)]
def wsX12_act : List Cond := .code yX12_act cX12_act 4 (some .int) :: ((wsX12_act_r1 ++ wsX12_act_r2) ++ wsX120)
def wsX12_trace : List Cond := .code yX12_trace cX12_trace 2 (some .int) :: ([.fieldLink RX12 242 "ChiefGradesModel" "ran" "I", .fieldLink RX12 43 "ChiefGradesModel" "bodies" "[I", .methodLink RX12 50 yX12_in, .static yX12_in, .initialized RX12, .code yX12_in cX12_in 3 (some .boolean)] ++ wsX120)
def wsX12_as : List Cond := .code yX12_as cX12_as 3 (some .int) :: ([.fieldLink RX12 9 "ChiefGradesModel" "s" "[I", .methodLink RX12 138 yX12_isChief, .instanceMethod yX12_isChief, .selects RX12 yX12_isChief yX12_isChief, .initialized RX12, .code yX12_isChief cX12_isChief 2 (some .boolean), .methodLink RX12 50 yX12_in, .static yX12_in, .code yX12_in cX12_in 3 (some .boolean), .methodLink RX12 254 yX12_isUnder, .static yX12_isUnder, .code yX12_isUnder cX12_isUnder 2 (some .boolean)] ++ wsX120)
def wsX12_image : List Cond := .code yX12_image cX12_image 2 (some .int) :: ([.fieldLink RX12 15 "ChiefGradesModel" "image" "[I", .fieldLink RX12 9 "ChiefGradesModel" "s" "[I", .fieldLink RX12 278 "ChiefGradesModel" "hasImage" "Z"] ++ wsX120)
def wsX12_undo : List Cond := .code yX12_undo cX12_undo 2 (some .int) :: ([.fieldLink RX12 278 "ChiefGradesModel" "hasImage" "Z", .fieldLink RX12 9 "ChiefGradesModel" "s" "[I", .fieldLink RX12 15 "ChiefGradesModel" "image" "[I"] ++ wsX120)
def wsX12_count : List Cond := .code yX12_count cX12_count 2 (some .int) :: ([.fieldLink RX12 9 "ChiefGradesModel" "s" "[I", .fieldLink RX12 242 "ChiefGradesModel" "ran" "I"] ++ wsX120)
def wsJ9_abs_0f7a4 : List Cond := .code yJ9_abs_0f7a4 cJ9_abs_0f7a4 1 (some .int) :: ([])
def wsJ9_abs_067f4 : List Cond := .code yJ9_abs_067f4 cJ9_abs_067f4 2 (some .long) :: ([])
def wsJ9_max_7cf53 : List Cond := .code yJ9_max_7cf53 cJ9_max_7cf53 2 (some .int) :: ([])
def wsJ9_min_7cf53 : List Cond := .code yJ9_min_7cf53 cJ9_min_7cf53 2 (some .int) :: ([])
def wsL_law_r1 : List Cond := [Cond.classLink RL 7 RX11, Cond.instantiable RX11 7, Cond.initialized RX11, Cond.classLink RL 10 RX12, Cond.instantiable RX12 22, Cond.initialized RX12, Cond.methodLink RL 9 yX11_init, Cond.instanceMethod yX11_init, Cond.code yX11_init cX11_init 1 none, Cond.methodLink RX11 3 objectInit, Cond.instanceMethod objectInit, Cond.code objectInit ⟨#[0xb1]⟩ 1 none, Cond.classLink RX11 9 RX10, Cond.instantiable RX10 19, Cond.initialized RX10, Cond.fieldLink RX11 12 "ChiefGrades" "now" "LChiefGrades$World;", Cond.fieldLink RX11 18 "ChiefGrades" "trial" "LChiefGrades$World;", Cond.fieldLink RX11 21 "ChiefGrades" "kept" "LChiefGrades$World;", Cond.classLink RX11 24 RX1, Cond.instantiable RX1 7, Cond.initialized RX1, Cond.fieldLink RX11 27 "ChiefGrades" "grader" "LChiefGrades$Grader;", Cond.classLink RX11 31 RX8, Cond.instantiable RX8 2]
def wsL_law_r2 : List Cond := [Cond.initialized RX8, Cond.fieldLink RX11 34 "ChiefGrades" "ran" "LChiefGrades$Trace;", Cond.arrayClass .int, Cond.fieldLink RX11 38 "ChiefGrades" "before" "[I", Cond.methodLink RX11 11 yX10_init, Cond.instanceMethod yX10_init, Cond.code yX10_init cX10_init 1 none, Cond.methodLink RX10 3 objectInit, Cond.fieldLink RX10 9 "ChiefGrades$World" "newWorth" "I", Cond.fieldLink RX10 15 "ChiefGrades$World" "newLate" "I", Cond.fieldLink RX10 18 "ChiefGrades$World" "worth" "[I", Cond.fieldLink RX10 22 "ChiefGrades$World" "late" "[I", Cond.fieldLink RX10 25 "ChiefGrades$World" "chiefOf" "[I", Cond.fieldLink RX10 28 "ChiefGrades$World" "desk" "[I", Cond.fieldLink RX10 31 "ChiefGrades$World" "pay" "[I", Cond.classLink RX10 34 RX0, Cond.fieldLink RX10 36 "ChiefGrades$World" "chief" "[LChiefGrades$Chief;", Cond.fieldLink RX10 40 "ChiefGrades$World" "rowWorker" "[I", Cond.fieldLink RX10 43 "ChiefGrades$World" "rowChief" "[I", Cond.fieldLink RX10 46 "ChiefGrades$World" "rowGrade" "[I", Cond.arrayClass .char, Cond.fieldLink RX10 49 "ChiefGrades$World" "tape" "[C", Cond.classLink RX10 53 RX2, Cond.instantiable RX2 11]
def wsL_law_r3 : List Cond := [Cond.initialized RX2, Cond.fieldLink RX10 58 "ChiefGrades$World" "held" "LChiefGrades$House;", Cond.methodLink RX10 55 yX2_init, Cond.instanceMethod yX2_init, Cond.code yX2_init cX2_init 3 none, Cond.methodLink RX2 1 objectInit, Cond.fieldLink RX2 7 "ChiefGrades$House" "five" "I", Cond.fieldLink RX2 13 "ChiefGrades$House" "one" "I", Cond.fieldLink RX2 16 "ChiefGrades$House" "pay" "I", Cond.fieldLink RX2 19 "ChiefGrades$House" "text" "[C", Cond.methodLink RX2 23 Lib.Math.min.name, Cond.static Lib.Math.min.name, Cond.initialized "java/lang/Math", Cond.code Lib.Math.min.name Lib.Math.min.code 2 (some .int), Cond.methodLink RX2 29 Lib.Math.max.name, Cond.static Lib.Math.max.name, Cond.code Lib.Math.max.name Lib.Math.max.code 2 (some .int), Cond.fieldLink RX2 32 "ChiefGrades$House" "size" "I", Cond.fieldLink RX2 35 "ChiefGrades$House" "step" "[I", Cond.fieldLink RX2 39 "ChiefGrades$House" "least" "[I", Cond.fieldLink RX2 42 "ChiefGrades$House" "most" "[I", Cond.methodLink RX11 26 yX1_init, Cond.instanceMethod yX1_init, Cond.code yX1_init cX1_init 1 none]
def wsL_law_r4 : List Cond := [Cond.methodLink RX1 3 objectInit, Cond.fieldLink RX1 9 "ChiefGrades$Grader" "grade" "[I", Cond.fieldLink RX1 15 "ChiefGrades$Grader" "mark" "[I", Cond.fieldLink RX1 18 "ChiefGrades$Grader" "team" "[I", Cond.fieldLink RX1 21 "ChiefGrades$Grader" "line" "[I", Cond.fieldLink RX1 24 "ChiefGrades$Grader" "facts" "[I", Cond.classLink RX1 27 RX0, Cond.instantiable RX0 4, Cond.initialized RX0, Cond.fieldLink RX1 32 "ChiefGrades$Grader" "plain" "LChiefGrades$Chief;", Cond.methodLink RX1 29 yX0_init, Cond.instanceMethod yX0_init, Cond.code yX0_init cX0_init 5 none, Cond.methodLink RX0 1 objectInit, Cond.fieldLink RX0 7 "ChiefGrades$Chief" "kind" "I", Cond.fieldLink RX0 13 "ChiefGrades$Chief" "number" "I", Cond.fieldLink RX0 16 "ChiefGrades$Chief" "v" "I", Cond.fieldLink RX0 19 "ChiefGrades$Chief" "desk" "I", Cond.methodLink RX11 33 yX8_init, Cond.instanceMethod yX8_init, Cond.code yX8_init cX8_init 1 none, Cond.methodLink RX8 3 objectInit, Cond.fieldLink RX8 9 "ChiefGrades$Trace" "first" "[I", Cond.methodLink RL 12 yX12_init]
def wsL_law_r5 : List Cond := [Cond.instanceMethod yX12_init, Cond.code yX12_init cX12_init 1 none, Cond.methodLink RX12 3 objectInit, Cond.fieldLink RX12 9 "ChiefGradesModel" "s" "[I", Cond.fieldLink RX12 15 "ChiefGradesModel" "image" "[I", Cond.fieldLink RX12 18 "ChiefGradesModel" "frame" "[I", Cond.fieldLink RX12 21 "ChiefGradesModel" "by" "[I", Cond.arrayClass .boolean, Cond.fieldLink RX12 24 "ChiefGradesModel" "truths" "[Z", Cond.fieldLink RX12 28 "ChiefGradesModel" "marks" "[I", Cond.fieldLink RX12 31 "ChiefGradesModel" "grades" "[I", Cond.fieldLink RX12 34 "ChiefGradesModel" "dues" "[I", Cond.fieldLink RX12 37 "ChiefGradesModel" "isIn" "[Z", Cond.fieldLink RX12 40 "ChiefGradesModel" "means" "[I", Cond.fieldLink RX12 43 "ChiefGradesModel" "bodies" "[I", Cond.methodLink RL 13 yX11_feed, Cond.instanceMethod yX11_feed, Cond.selects RX11 yX11_feed yX11_feed, Cond.code yX11_feed cX11_feed 2 (some .int), Cond.fieldLink RX11 42 "ChiefGrades$World" "signs" "I", Cond.fieldLink RX11 46 "ChiefGrades$World" "tape" "[C", Cond.methodLink RL 17 yX12_feed, Cond.instanceMethod yX12_feed, Cond.selects RX12 yX12_feed yX12_feed]
def wsL_law_r6 : List Cond := [Cond.code yX12_feed cX12_feed 2 (some .int), Cond.methodLink RX12 50 yX12_in, Cond.static yX12_in, Cond.code yX12_in cX12_in 3 (some .boolean), Cond.methodLink RL 18 yX11_house, Cond.instanceMethod yX11_house, Cond.selects RX11 yX11_house yX11_house, Cond.code yX11_house cX11_house 3 (some .int), Cond.fieldLink RX11 50 "ChiefGrades$World" "houses" "I", Cond.classLink RX11 53 RX2, Cond.fieldLink RX11 62 "ChiefGrades$World" "held" "LChiefGrades$House;", Cond.methodLink RX11 55 yX2_init, Cond.methodLink RX11 58 yX2_read, Cond.instanceMethod yX2_read, Cond.selects RX2 yX2_read yX2_read, Cond.code yX2_read cX2_read 3 (some .int), Cond.fieldLink RX2 67 "ChiefGrades$House" "isFaulty" "Z", Cond.fieldLink RX2 71 "ChiefGrades$House" "at" "I", Cond.methodLink RX2 45 yX2_sign, Cond.instanceMethod yX2_sign, Cond.selects RX2 yX2_sign yX2_sign, Cond.code yX2_sign cX2_sign 1 (some .int), Cond.methodLink RX2 51 yX2_readGain, Cond.instanceMethod yX2_readGain]
def wsL_law_r7 : List Cond := [Cond.selects RX2 yX2_readGain yX2_readGain, Cond.code yX2_readGain cX2_readGain 4 none, Cond.methodLink RX2 81 yX2_takeAll, Cond.instanceMethod yX2_takeAll, Cond.selects RX2 yX2_takeAll yX2_takeAll, Cond.code yX2_takeAll cX2_takeAll 3 none, Cond.methodLink RX2 110 yJ0_length_8abf5, Cond.instanceMethod yJ0_length_8abf5, Cond.selects RJ0 yJ0_length_8abf5 yJ0_length_8abf5, Cond.initialized RJ0, Cond.code yJ0_length_8abf5 cJ0_length_8abf5 1 (some .int), Cond.fieldLink RJ0 9 "java/lang/String" "value" "[B", Cond.methodLink RJ0 335 yJ0_coder_7d493, Cond.instanceMethod yJ0_coder_7d493, Cond.selects RJ0 yJ0_coder_7d493 yJ0_coder_7d493, Cond.code yJ0_coder_7d493 cJ0_coder_7d493 1 (some .byte), Cond.fieldLink RJ0 38 "java/lang/String" "COMPACT_STRINGS" "Z", Cond.fieldLink RJ0 15 "java/lang/String" "coder" "B", Cond.methodLink RX2 113 yJ0_charAt_5068e, Cond.instanceMethod yJ0_charAt_5068e, Cond.selects RJ0 yJ0_charAt_5068e yJ0_charAt_5068e, Cond.code yJ0_charAt_5068e cJ0_charAt_5068e 2 (some .char), Cond.methodLink RJ0 492 yJ0_isLatin1_aae02, Cond.instanceMethod yJ0_isLatin1_aae02]
def wsL_law_r8 : List Cond := [Cond.selects RJ0 yJ0_isLatin1_aae02 yJ0_isLatin1_aae02, Cond.code yJ0_isLatin1_aae02 cJ0_isLatin1_aae02 1 (some .boolean), Cond.methodLink RJ0 495 yJ1_charAt_3b067, Cond.static yJ1_charAt_3b067, Cond.initialized RJ1, Cond.code yJ1_charAt_3b067 cJ1_charAt_3b067 2 (some .char), Cond.methodLink RJ1 9 yJ0_checkIndex_df160, Cond.static yJ0_checkIndex_df160, Cond.code yJ0_checkIndex_df160 cJ0_checkIndex_df160 2 none, Cond.fieldLink RJ0 1053 "jdk/internal/util/Preconditions" "SIOOBE_FORMATTER" "Ljava/util/function/BiFunction;", Cond.methodLink RJ0 1059 yJ3_checkIndex_8e157, Cond.static yJ3_checkIndex_8e157, Cond.initialized RJ3, Cond.code yJ3_checkIndex_8e157 cJ3_checkIndex_8e157 3 (some .int), Cond.methodLink RJ0 498 yJ2_charAt_3b067, Cond.static yJ2_charAt_3b067, Cond.initialized RJ2, Cond.code yJ2_charAt_3b067 cJ2_charAt_3b067 2 (some .char), Cond.methodLink RJ2 67 yJ2_checkIndex_2214a, Cond.static yJ2_checkIndex_2214a, Cond.code yJ2_checkIndex_2214a cJ2_checkIndex_2214a 2 none, Cond.methodLink RJ2 48 yJ2_length_9d52b, Cond.static yJ2_length_9d52b, Cond.code yJ2_length_9d52b cJ2_length_9d52b 1 (some .int)]
def wsL_law_r9 : List Cond := [Cond.methodLink RJ2 414 yJ0_checkIndex_df160, Cond.methodLink RJ2 71 yJ2_getChar_3b067, Cond.static yJ2_getChar_3b067, Cond.code yJ2_getChar_3b067 cJ2_getChar_3b067 2 (some .char), Cond.fieldLink RJ2 44 "java/lang/StringUTF16" "$assertionsDisabled" "Z", Cond.fieldLink RJ2 59 "java/lang/StringUTF16" "HI_BYTE_SHIFT" "I", Cond.fieldLink RJ2 63 "java/lang/StringUTF16" "LO_BYTE_SHIFT" "I", Cond.methodLink RX2 74 yX2_take, Cond.instanceMethod yX2_take, Cond.selects RX2 yX2_take yX2_take, Cond.code yX2_take cX2_take 2 (some .boolean), Cond.methodLink RX2 85 yX2_readNumber, Cond.instanceMethod yX2_readNumber, Cond.selects RX2 yX2_readNumber yX2_readNumber, Cond.code yX2_readNumber cX2_readNumber 3 (some .int), Cond.methodLink RX2 88 yX2_readEither, Cond.instanceMethod yX2_readEither, Cond.selects RX2 yX2_readEither yX2_readEither, Cond.code yX2_readEither cX2_readEither 3 none, Cond.methodLink RX2 96 yX2_readBoth, Cond.instanceMethod yX2_readBoth, Cond.selects RX2 yX2_readBoth yX2_readBoth, Cond.methodLink RX2 92 yX2_add, Cond.instanceMethod yX2_add]
def wsL_law_r10 : List Cond := [Cond.selects RX2 yX2_add yX2_add, Cond.code yX2_add cX2_add 4 none, Cond.fieldLink RX2 78 "ChiefGrades$House" "steps" "I", Cond.code yX2_readBoth cX2_readBoth 3 none, Cond.methodLink RX2 99 yX2_readPart, Cond.instanceMethod yX2_readPart, Cond.selects RX2 yX2_readPart yX2_readPart, Cond.code yX2_readPart cX2_readPart 6 none, Cond.methodLink RX2 104 yJ0_indexOf_0f7a4, Cond.instanceMethod yJ0_indexOf_0f7a4, Cond.selects RJ0 yJ0_indexOf_0f7a4 yJ0_indexOf_0f7a4, Cond.code yJ0_indexOf_0f7a4 cJ0_indexOf_0f7a4 2 (some .int), Cond.methodLink RJ0 633 yJ0_indexOf_7cf53, Cond.instanceMethod yJ0_indexOf_7cf53, Cond.selects RJ0 yJ0_indexOf_7cf53 yJ0_indexOf_7cf53, Cond.code yJ0_indexOf_7cf53 cJ0_indexOf_7cf53 3 (some .int), Cond.methodLink RJ0 505 yJ0_length_8abf5, Cond.methodLink RJ0 637 yJ1_indexOf_4cfef, Cond.static yJ1_indexOf_4cfef, Cond.code yJ1_indexOf_4cfef cJ1_indexOf_4cfef 4 (some .int), Cond.methodLink RJ1 92 Lib.Math.max.name, Cond.methodLink RJ1 38 Lib.Math.min.name, Cond.methodLink RJ1 88 yJ1_canEncode_9a6ad, Cond.static yJ1_canEncode_9a6ad]
def wsL_law_r11 : List Cond := [Cond.code yJ1_canEncode_9a6ad cJ1_canEncode_9a6ad 1 (some .boolean), Cond.methodLink RJ1 95 yJ1_indexOfChar_4cfef, Cond.static yJ1_indexOfChar_4cfef, Cond.code yJ1_indexOfChar_4cfef cJ1_indexOfChar_4cfef 6 (some .int), Cond.methodLink RJ0 640 yJ2_indexOf_4cfef, Cond.static yJ2_indexOf_4cfef, Cond.code yJ2_indexOf_4cfef cJ2_indexOf_4cfef 4 (some .int), Cond.methodLink RJ2 224 Lib.Math.max.name, Cond.methodLink RJ2 183 Lib.Math.min.name, Cond.constant RJ2 227 (65536), Cond.methodLink RJ2 228 yJ2_indexOfChar_4cfef, Cond.static yJ2_indexOfChar_4cfef, Cond.code yJ2_indexOfChar_4cfef cJ2_indexOfChar_4cfef 4 (some .int), Cond.methodLink RJ2 96 yJ2_checkBoundsBeginEnd_d044e, Cond.static yJ2_checkBoundsBeginEnd_d044e, Cond.code yJ2_checkBoundsBeginEnd_d044e cJ2_checkBoundsBeginEnd_d044e 3 none, Cond.methodLink RJ2 241 yJ0_checkBoundsBeginEnd_23922, Cond.static yJ0_checkBoundsBeginEnd_23922, Cond.code yJ0_checkBoundsBeginEnd_23922 cJ0_checkBoundsBeginEnd_23922 3 none, Cond.methodLink RJ0 1062 yJ3_checkFromToIndex_8c36e, Cond.static yJ3_checkFromToIndex_8c36e, Cond.code yJ3_checkFromToIndex_8c36e cJ3_checkFromToIndex_8c36e 4 (some .int), Cond.methodLink RJ2 244 yJ2_indexOfCharUnsafe_4cfef, Cond.static yJ2_indexOfCharUnsafe_4cfef]
def wsL_law_r12 : List Cond := [Cond.code yJ2_indexOfCharUnsafe_4cfef cJ2_indexOfCharUnsafe_4cfef 5 (some .int), Cond.methodLink RJ2 232 yJ2_indexOfSupplementary_4cfef, Cond.static yJ2_indexOfSupplementary_4cfef, Cond.code yJ2_indexOfSupplementary_4cfef cJ2_indexOfSupplementary_4cfef 7 (some .int), Cond.methodLink RJ2 164 yJ11_isValidCodePoint_9a6ad, Cond.static yJ11_isValidCodePoint_9a6ad, Cond.initialized RJ11, Cond.code yJ11_isValidCodePoint_9a6ad cJ11_isValidCodePoint_9a6ad 2 (some .boolean), Cond.methodLink RJ2 157 yJ11_highSurrogate_5068e, Cond.static yJ11_highSurrogate_5068e, Cond.code yJ11_highSurrogate_5068e cJ11_highSurrogate_5068e 1 (some .char), Cond.constant RJ11 110 (55232), Cond.methodLink RJ2 161 yJ11_lowSurrogate_5068e, Cond.static yJ11_lowSurrogate_5068e, Cond.code yJ11_lowSurrogate_5068e cJ11_lowSurrogate_5068e 1 (some .char), Cond.constant RJ11 76 (56320), Cond.methodLink RX2 59 yX2_readShare, Cond.instanceMethod yX2_readShare, Cond.selects RX2 yX2_readShare yX2_readShare, Cond.code yX2_readShare cX2_readShare 2 (some .int), Cond.methodLink RL 22 yX12_house, Cond.instanceMethod yX12_house, Cond.selects RX12 yX12_house yX12_house, Cond.code yX12_house cX12_house 2 (some .int)]
def wsL_law_r13 : List Cond := [Cond.fieldLink RX12 81 "ChiefGradesModel" "act" "I", Cond.fieldLink RX12 57 "ChiefGradesModel" "end" "I", Cond.fieldLink RX12 54 "ChiefGradesModel" "spot" "I", Cond.fieldLink RX12 60 "ChiefGradesModel" "isWrong" "Z", Cond.fieldLink RX12 84 "ChiefGradesModel" "open" "I", Cond.methodLink RX12 131 yX12_clauseHere, Cond.instanceMethod yX12_clauseHere, Cond.selects RX12 yX12_clauseHere yX12_clauseHere, Cond.code yX12_clauseHere cX12_clauseHere 1 none, Cond.methodLink RX12 64 yX12_here, Cond.instanceMethod yX12_here, Cond.selects RX12 yX12_here yX12_here, Cond.code yX12_here cX12_here 1 (some .int), Cond.methodLink RX12 116 yX12_much, Cond.instanceMethod yX12_much, Cond.selects RX12 yX12_much yX12_much, Cond.code yX12_much cX12_much 4 none, Cond.methodLink RX12 110 yX12_spells, Cond.instanceMethod yX12_spells, Cond.selects RX12 yX12_spells yX12_spells, Cond.code yX12_spells cX12_spells 3 none, Cond.methodLink RX12 68 yJ0_length_8abf5, Cond.methodLink RX12 73 yJ0_charAt_5068e, Cond.methodLink RX12 77 yX12_must]
def wsL_law_r14 : List Cond := [Cond.instanceMethod yX12_must, Cond.selects RX12 yX12_must yX12_must, Cond.code yX12_must cX12_must 2 none, Cond.methodLink RX12 104 yX12_figures, Cond.instanceMethod yX12_figures, Cond.selects RX12 yX12_figures yX12_figures, Cond.code yX12_figures cX12_figures 3 (some .int), Cond.methodLink RX12 93 yX12_some, Cond.instanceMethod yX12_some, Cond.selects RX12 yX12_some yX12_some, Cond.code yX12_some cX12_some 1 none, Cond.methodLink RX12 107 yX12_every, Cond.instanceMethod yX12_every, Cond.selects RX12 yX12_every yX12_every, Cond.methodLink RX12 90 yX12_emits, Cond.instanceMethod yX12_emits, Cond.selects RX12 yX12_emits yX12_emits, Cond.code yX12_emits cX12_emits 2 none, Cond.code yX12_every cX12_every 1 none, Cond.methodLink RX12 87 yX12_factor, Cond.instanceMethod yX12_factor, Cond.selects RX12 yX12_factor yX12_factor, Cond.code yX12_factor cX12_factor 5 none, Cond.methodLink RX12 98 yX12_among]
def wsL_law_r15 : List Cond := [Cond.instanceMethod yX12_among, Cond.selects RX12 yX12_among yX12_among, Cond.code yX12_among cX12_among 3 (some .int), Cond.methodLink RX12 124 yX12_tellsHere, Cond.instanceMethod yX12_tellsHere, Cond.selects RX12 yX12_tellsHere yX12_tellsHere, Cond.code yX12_tellsHere cX12_tellsHere 4 none, Cond.methodLink RL 23 yX11_told, Cond.instanceMethod yX11_told, Cond.selects RX11 yX11_told yX11_told, Cond.code yX11_told cX11_told 2 (some .int), Cond.fieldLink RX11 66 "ChiefGrades$House" "five" "I", Cond.fieldLink RX11 69 "ChiefGrades$House" "one" "I", Cond.fieldLink RX11 72 "ChiefGrades$House" "pay" "I", Cond.fieldLink RX11 75 "ChiefGrades$World" "year" "I", Cond.fieldLink RX11 78 "ChiefGrades$World" "newWorth" "I", Cond.fieldLink RX11 81 "ChiefGrades$World" "newLate" "I", Cond.methodLink RL 26 yX12_told, Cond.instanceMethod yX12_told, Cond.selects RX12 yX12_told yX12_told, Cond.code yX12_told cX12_told 2 (some .int), Cond.methodLink RX12 134 yX12_tellsOf, Cond.instanceMethod yX12_tellsOf, Cond.selects RX12 yX12_tellsOf yX12_tellsOf]
def wsL_law_r16 : List Cond := [Cond.code yX12_tellsOf cX12_tellsOf 3 (some .int), Cond.methodLink RL 27 yX11_chief, Cond.instanceMethod yX11_chief, Cond.selects RX11 yX11_chief yX11_chief, Cond.code yX11_chief cX11_chief 4 (some .int), Cond.fieldLink RX11 88 "ChiefGrades$World" "chiefs" "I", Cond.fieldLink RX11 91 "ChiefGrades$World" "chief" "[LChiefGrades$Chief;", Cond.methodLink RX11 84 yX11_isWithin, Cond.static yX11_isWithin, Cond.code yX11_isWithin cX11_isWithin 2 (some .boolean), Cond.methodLink RX11 95 yX0_make, Cond.static yX0_make, Cond.code yX0_make cX0_make 4 (some (.object "ChiefGrades$Chief")), Cond.classLink RX0 22 RX5, Cond.instantiable RX5 4, Cond.initialized RX5, Cond.classLink RX0 27 RX9, Cond.instantiable RX9 4, Cond.initialized RX9, Cond.classLink RX0 30 RX4, Cond.instantiable RX4 4, Cond.initialized RX4, Cond.classLink RX0 33 RX6, Cond.instantiable RX6 4]
def wsL_law_r17 : List Cond := [Cond.initialized RX6, Cond.classLink RX0 36 RX3, Cond.instantiable RX3 4, Cond.initialized RX3, Cond.classLink RX0 39 RX7, Cond.instantiable RX7 4, Cond.initialized RX7, Cond.classLink RX0 8 RX0, Cond.methodLink RX0 24 yX5_init, Cond.instanceMethod yX5_init, Cond.code yX5_init cX5_init 5 none, Cond.methodLink RX5 1 yX0_init, Cond.methodLink RX0 29 yX9_init, Cond.instanceMethod yX9_init, Cond.code yX9_init cX9_init 5 none, Cond.methodLink RX9 1 yX0_init, Cond.methodLink RX0 32 yX4_init, Cond.instanceMethod yX4_init, Cond.code yX4_init cX4_init 5 none, Cond.methodLink RX4 1 yX0_init, Cond.methodLink RX0 35 yX6_init, Cond.instanceMethod yX6_init, Cond.code yX6_init cX6_init 5 none, Cond.methodLink RX6 1 yX5_init]
def wsL_law_r18 : List Cond := [Cond.methodLink RX0 38 yX3_init, Cond.instanceMethod yX3_init, Cond.code yX3_init cX3_init 5 none, Cond.methodLink RX3 1 yX9_init, Cond.methodLink RX0 41 yX7_init, Cond.instanceMethod yX7_init, Cond.code yX7_init cX7_init 5 none, Cond.methodLink RX7 1 yX4_init, Cond.methodLink RX0 42 yX0_init, Cond.methodLink RL 31 yX12_chief, Cond.instanceMethod yX12_chief, Cond.selects RX12 yX12_chief yX12_chief, Cond.code yX12_chief cX12_chief 5 (some .int), Cond.methodLink RL 32 yX11_worker, Cond.instanceMethod yX11_worker, Cond.selects RX11 yX11_worker yX11_worker, Cond.code yX11_worker cX11_worker 6 (some .int), Cond.fieldLink RX11 105 "ChiefGrades$World" "workers" "I", Cond.fieldLink RX11 108 "ChiefGrades$World" "worth" "[I", Cond.fieldLink RX11 111 "ChiefGrades$World" "late" "[I", Cond.fieldLink RX11 114 "ChiefGrades$World" "chiefOf" "[I", Cond.fieldLink RX11 117 "ChiefGrades$World" "desk" "[I", Cond.fieldLink RX11 120 "ChiefGrades$World" "pay" "[I", Cond.methodLink RX11 101 yX10_chiefAt]
def wsL_law_r19 : List Cond := [Cond.instanceMethod yX10_chiefAt, Cond.selects RX10 yX10_chiefAt yX10_chiefAt, Cond.code yX10_chiefAt cX10_chiefAt 2 (some (.object "ChiefGrades$Chief")), Cond.fieldLink RX10 65 "ChiefGrades$World" "chiefs" "I", Cond.methodLink RL 36 yX12_worker, Cond.instanceMethod yX12_worker, Cond.selects RX12 yX12_worker yX12_worker, Cond.code yX12_worker cX12_worker 6 (some .int), Cond.methodLink RX12 138 yX12_isChief, Cond.instanceMethod yX12_isChief, Cond.selects RX12 yX12_isChief yX12_isChief, Cond.code yX12_isChief cX12_isChief 2 (some .boolean), Cond.methodLink RL 37 yX11_of, Cond.instanceMethod yX11_of, Cond.selects RX11 yX11_of yX11_of, Cond.code yX11_of cX11_of 3 (some .int), Cond.fieldLink RX11 138 "ChiefGrades$Grader" "grade" "[I", Cond.methodLink RX11 122 yX10_hasWorker, Cond.instanceMethod yX10_hasWorker, Cond.selects RX10 yX10_hasWorker yX10_hasWorker, Cond.code yX10_hasWorker cX10_hasWorker 2 (some .boolean), Cond.fieldLink RX10 62 "ChiefGrades$World" "workers" "I", Cond.methodLink RX11 126 yX11_mark, Cond.instanceMethod yX11_mark]
def wsL_law_r20 : List Cond := [Cond.selects RX11 yX11_mark yX11_mark, Cond.code yX11_mark cX11_mark 4 (some .int), Cond.methodLink RX11 161 yX1_markBy, Cond.instanceMethod yX1_markBy, Cond.selects RX1 yX1_markBy yX1_markBy, Cond.code yX1_markBy cX1_markBy 4 (some .int), Cond.fieldLink RX1 42 "ChiefGrades$Chief" "number" "I", Cond.fieldLink RX1 46 "ChiefGrades$Chief" "kind" "I", Cond.fieldLink RX1 49 "ChiefGrades$World" "worth" "[I", Cond.fieldLink RX1 52 "ChiefGrades$World" "year" "I", Cond.fieldLink RX1 64 "ChiefGrades$World" "late" "[I", Cond.fieldLink RX1 71 "ChiefGrades$World" "desk" "[I", Cond.fieldLink RX1 77 "ChiefGrades$World" "held" "LChiefGrades$House;", Cond.methodLink RX1 36 yX10_hasWorker, Cond.methodLink RX1 55 yX10_teamBits, Cond.instanceMethod yX10_teamBits, Cond.selects RX10 yX10_teamBits yX10_teamBits, Cond.code yX10_teamBits cX10_teamBits 4 (some .int), Cond.methodLink RX1 59 yJ6_bitCount_0f7a4, Cond.static yJ6_bitCount_0f7a4, Cond.initialized RJ6, Cond.code yJ6_bitCount_0f7a4 cJ6_bitCount_0f7a4 1 (some .int), Cond.constant RJ6 265 (1431655765), Cond.constant RJ6 266 (858993459)]
def wsL_law_r21 : List Cond := [Cond.constant RJ6 267 (252645135), Cond.methodLink RX1 67 yX0_seen, Cond.instanceMethod yX0_seen, Cond.selects RX0 yX0_seen yX0_seen, Cond.code yX0_seen cX0_seen 3 (some .int), Cond.methodLink RX1 67 ⟨"ChiefGrades$Chief", "seen", "(II)I"⟩, Cond.sameMethod "ChiefGrades$Chief" "ChiefGrades$Chief" "seen" "(II)I", Cond.selects RX3 ⟨"ChiefGrades$Chief", "seen", "(II)I"⟩ yX0_seen, Cond.instanceMethod ⟨"ChiefGrades$Chief", "seen", "(II)I"⟩, Cond.selects RX4 ⟨"ChiefGrades$Chief", "seen", "(II)I"⟩ yX4_seen, Cond.instanceMethod yX4_seen, Cond.code yX4_seen cX4_seen 3 (some .int), Cond.fieldLink RX4 7 "ChiefGrades$Lately" "v" "I", Cond.sameField "ChiefGrades$Lately" "ChiefGrades$Chief" "v" "I", Cond.selects RX5 ⟨"ChiefGrades$Chief", "seen", "(II)I"⟩ yX0_seen, Cond.selects RX6 ⟨"ChiefGrades$Chief", "seen", "(II)I"⟩ yX0_seen, Cond.selects RX7 ⟨"ChiefGrades$Chief", "seen", "(II)I"⟩ yX4_seen, Cond.selects RX9 ⟨"ChiefGrades$Chief", "seen", "(II)I"⟩ yX0_seen, Cond.methodLink RX1 74 yX0_favour, Cond.instanceMethod yX0_favour, Cond.selects RX0 yX0_favour yX0_favour, Cond.code yX0_favour cX0_favour 2 (some .int), Cond.methodLink RX1 74 ⟨"ChiefGrades$Chief", "favour", "(I)I"⟩, Cond.sameMethod "ChiefGrades$Chief" "ChiefGrades$Chief" "favour" "(I)I"]
def wsL_law_r22 : List Cond := [Cond.selects RX3 ⟨"ChiefGrades$Chief", "favour", "(I)I"⟩ yX0_favour, Cond.selects RX4 ⟨"ChiefGrades$Chief", "favour", "(I)I"⟩ yX0_favour, Cond.instanceMethod ⟨"ChiefGrades$Chief", "favour", "(I)I"⟩, Cond.selects RX5 ⟨"ChiefGrades$Chief", "favour", "(I)I"⟩ yX5_favour, Cond.instanceMethod yX5_favour, Cond.code yX5_favour cX5_favour 2 (some .int), Cond.fieldLink RX5 7 "ChiefGrades$Lenient" "v" "I", Cond.sameField "ChiefGrades$Lenient" "ChiefGrades$Chief" "v" "I", Cond.selects RX6 ⟨"ChiefGrades$Chief", "favour", "(I)I"⟩ yX6_favour, Cond.instanceMethod yX6_favour, Cond.code yX6_favour cX6_favour 2 (some .int), Cond.fieldLink RX6 11 "ChiefGrades$Near" "desk" "I", Cond.sameField "ChiefGrades$Near" "ChiefGrades$Chief" "desk" "I", Cond.methodLink RX6 17 Lib.Math.abs.name, Cond.static Lib.Math.abs.name, Cond.code Lib.Math.abs.name Lib.Math.abs.code 1 (some .int), Cond.methodLink RX6 7 yX5_favour, Cond.sameMethod "ChiefGrades$Lenient" "ChiefGrades$Lenient" "favour" "(I)I", Cond.superclass RX6 RX5, Cond.selects RX7 ⟨"ChiefGrades$Chief", "favour", "(I)I"⟩ yX7_favour, Cond.instanceMethod yX7_favour, Cond.code yX7_favour cX7_favour 2 (some .int), Cond.fieldLink RX7 7 "ChiefGrades$Talking" "v" "I", Cond.sameField "ChiefGrades$Talking" "ChiefGrades$Chief" "v" "I"]
def wsL_law_r23 : List Cond := [Cond.selects RX9 ⟨"ChiefGrades$Chief", "favour", "(I)I"⟩ yX0_favour, Cond.methodLink RX1 81 yX2_raise, Cond.instanceMethod yX2_raise, Cond.selects RX2 yX2_raise yX2_raise, Cond.code yX2_raise cX2_raise 9 (some .int), Cond.methodLink RX11 130 yX1_gradeHad, Cond.instanceMethod yX1_gradeHad, Cond.selects RX1 yX1_gradeHad yX1_gradeHad, Cond.code yX1_gradeHad cX1_gradeHad 4 (some .int), Cond.fieldLink RX1 98 "ChiefGrades$World" "chiefOf" "[I", Cond.methodLink RX1 90 yX10_chiefAt, Cond.methodLink RX1 94 yX1_gradeTeam, Cond.instanceMethod yX1_gradeTeam, Cond.selects RX1 yX1_gradeTeam yX1_gradeTeam, Cond.code yX1_gradeTeam cX1_gradeTeam 3 (some .int), Cond.methodLink RX1 101 yX1_gather, Cond.instanceMethod yX1_gather, Cond.selects RX1 yX1_gather yX1_gather, Cond.code yX1_gather cX1_gather 3 none, Cond.fieldLink RX1 115 "ChiefGrades$Grader" "size" "I", Cond.methodLink RX1 105 yX1_markTeam, Cond.instanceMethod yX1_markTeam, Cond.selects RX1 yX1_markTeam yX1_markTeam, Cond.code yX1_markTeam cX1_markTeam 4 none]
def wsL_law_r24 : List Cond := [Cond.methodLink RX1 122 yX1_markBy, Cond.methodLink RX1 109 yX1_share, Cond.instanceMethod yX1_share, Cond.selects RX1 yX1_share yX1_share, Cond.code yX1_share cX1_share 8 (some .int), Cond.fieldLink RX1 126 "ChiefGrades$House" "five" "I", Cond.fieldLink RX1 129 "ChiefGrades$House" "one" "I", Cond.methodLink RX1 132 Lib.Math.min.name, Cond.methodLink RX1 137 yX1_rank, Cond.instanceMethod yX1_rank, Cond.selects RX1 yX1_rank yX1_rank, Cond.code yX1_rank cX1_rank 6 none, Cond.methodLink RX1 140 yX1_byMark, Cond.static yX1_byMark, Cond.code yX1_byMark cX1_byMark 1 (some .int), Cond.methodLink RX1 143 yX0_lineUp, Cond.instanceMethod yX0_lineUp, Cond.selects RX0 yX0_lineUp yX0_lineUp, Cond.code yX0_lineUp cX0_lineUp 5 none, Cond.methodLink RX1 143 ⟨"ChiefGrades$Chief", "lineUp", "([III[I)V"⟩, Cond.sameMethod "ChiefGrades$Chief" "ChiefGrades$Chief" "lineUp" "([III[I)V", Cond.instanceMethod ⟨"ChiefGrades$Chief", "lineUp", "([III[I)V"⟩, Cond.selects RX3 ⟨"ChiefGrades$Chief", "lineUp", "([III[I)V"⟩ yX3_lineUp, Cond.instanceMethod yX3_lineUp]
def wsL_law_r25 : List Cond := [Cond.code yX3_lineUp cX3_lineUp 9 none, Cond.fieldLink RX3 7 "ChiefGrades$Keeping" "v" "I", Cond.sameField "ChiefGrades$Keeping" "ChiefGrades$Chief" "v" "I", Cond.methodLink RX3 13 yX9_lineUp, Cond.sameMethod "ChiefGrades$Turning" "ChiefGrades$Turning" "lineUp" "([III[I)V", Cond.superclass RX3 RX9, Cond.instanceMethod yX9_lineUp, Cond.code yX9_lineUp cX9_lineUp 6 none, Cond.selects RX4 ⟨"ChiefGrades$Chief", "lineUp", "([III[I)V"⟩ yX0_lineUp, Cond.selects RX5 ⟨"ChiefGrades$Chief", "lineUp", "([III[I)V"⟩ yX0_lineUp, Cond.selects RX6 ⟨"ChiefGrades$Chief", "lineUp", "([III[I)V"⟩ yX0_lineUp, Cond.selects RX7 ⟨"ChiefGrades$Chief", "lineUp", "([III[I)V"⟩ yX0_lineUp, Cond.selects RX9 ⟨"ChiefGrades$Chief", "lineUp", "([III[I)V"⟩ yX9_lineUp, Cond.methodLink RX11 134 yX1_gradeDue, Cond.instanceMethod yX1_gradeDue, Cond.selects RX1 yX1_gradeDue yX1_gradeDue, Cond.code yX1_gradeDue cX1_gradeDue 3 none, Cond.fieldLink RX1 112 "ChiefGrades$World" "workers" "I", Cond.methodLink RX11 141 yX1_gradeLevelled, Cond.instanceMethod yX1_gradeLevelled, Cond.selects RX1 yX1_gradeLevelled yX1_gradeLevelled, Cond.code yX1_gradeLevelled cX1_gradeLevelled 7 none, Cond.fieldLink RX1 87 "ChiefGrades$World" "chiefs" "I", Cond.methodLink RX1 118 yX1_meanOfTeam]
def wsL_law_r26 : List Cond := [Cond.instanceMethod yX1_meanOfTeam, Cond.selects RX1 yX1_meanOfTeam yX1_meanOfTeam, Cond.code yX1_meanOfTeam cX1_meanOfTeam 3 (some .int), Cond.methodLink RL 41 yX12_of, Cond.instanceMethod yX12_of, Cond.selects RX12 yX12_of yX12_of, Cond.code yX12_of cX12_of 3 (some .int), Cond.methodLink RX12 146 yX12_isWorker, Cond.instanceMethod yX12_isWorker, Cond.selects RX12 yX12_isWorker yX12_isWorker, Cond.code yX12_isWorker cX12_isWorker 2 (some .boolean), Cond.methodLink RX12 182 yX12_markOf, Cond.instanceMethod yX12_markOf, Cond.selects RX12 yX12_markOf yX12_markOf, Cond.code yX12_markOf cX12_markOf 8 (some .int), Cond.methodLink RX12 149 yX12_moreOf, Cond.instanceMethod yX12_moreOf, Cond.selects RX12 yX12_moreOf yX12_moreOf, Cond.code yX12_moreOf cX12_moreOf 12 (some .int), Cond.methodLink RX12 142 yX12_teamOf, Cond.instanceMethod yX12_teamOf, Cond.selects RX12 yX12_teamOf yX12_teamOf, Cond.code yX12_teamOf cX12_teamOf 4 (some .int), Cond.methodLink RX12 152 yX12_size]
def wsL_law_r27 : List Cond := [Cond.static yX12_size, Cond.code yX12_size cX12_size 1 (some .int), Cond.methodLink RX12 191 yX12_gradesAll, Cond.instanceMethod yX12_gradesAll, Cond.selects RX12 yX12_gradesAll yX12_gradesAll, Cond.code yX12_gradesAll cX12_gradesAll 2 none, Cond.methodLink RX12 185 yX12_gradesTeam, Cond.instanceMethod yX12_gradesTeam, Cond.selects RX12 yX12_gradesTeam yX12_gradesTeam, Cond.code yX12_gradesTeam cX12_gradesTeam 3 none, Cond.methodLink RX12 155 yX12_gradeBy, Cond.static yX12_gradeBy, Cond.code yX12_gradeBy cX12_gradeBy 1 (some .int), Cond.methodLink RX12 169 yX12_told, Cond.methodLink RX12 172 yX12_shareOf, Cond.instanceMethod yX12_shareOf, Cond.selects RX12 yX12_shareOf yX12_shareOf, Cond.code yX12_shareOf cX12_shareOf 2 (some .int), Cond.methodLink RX12 158 yX12_inTeam, Cond.instanceMethod yX12_inTeam, Cond.selects RX12 yX12_inTeam yX12_inTeam, Cond.code yX12_inTeam cX12_inTeam 3 (some .int), Cond.methodLink RX12 175 yX12_givesFives, Cond.instanceMethod yX12_givesFives]
def wsL_law_r28 : List Cond := [Cond.selects RX12 yX12_givesFives yX12_givesFives, Cond.code yX12_givesFives cX12_givesFives 7 none, Cond.methodLink RX12 178 yX12_onesBy, Cond.instanceMethod yX12_onesBy, Cond.selects RX12 yX12_onesBy yX12_onesBy, Cond.code yX12_onesBy cX12_onesBy 4 none, Cond.methodLink RX12 161 yX12_turnsOnes, Cond.instanceMethod yX12_turnsOnes, Cond.selects RX12 yX12_turnsOnes yX12_turnsOnes, Cond.code yX12_turnsOnes cX12_turnsOnes 8 none, Cond.methodLink RX12 165 yX12_givesOnes, Cond.instanceMethod yX12_givesOnes, Cond.selects RX12 yX12_givesOnes yX12_givesOnes, Cond.code yX12_givesOnes cX12_givesOnes 6 none, Cond.methodLink RX12 194 yX12_duesAll, Cond.instanceMethod yX12_duesAll, Cond.selects RX12 yX12_duesAll yX12_duesAll, Cond.code yX12_duesAll cX12_duesAll 2 none, Cond.methodLink RX12 197 yX12_levelsAll, Cond.instanceMethod yX12_levelsAll, Cond.selects RX12 yX12_levelsAll yX12_levelsAll, Cond.code yX12_levelsAll cX12_levelsAll 3 none, Cond.methodLink RX12 188 yX12_meanOf, Cond.instanceMethod yX12_meanOf]
def wsL_law_r29 : List Cond := [Cond.selects RX12 yX12_meanOf yX12_meanOf, Cond.code yX12_meanOf cX12_meanOf 6 (some .int), Cond.methodLink RL 42 yX11_by, Cond.instanceMethod yX11_by, Cond.selects RX11 yX11_by yX11_by, Cond.code yX11_by cX11_by 4 (some .int), Cond.fieldLink RX11 144 "ChiefGrades$Chief" "kind" "I", Cond.fieldLink RX11 147 "ChiefGrades$Chief" "v" "I", Cond.fieldLink RX11 150 "ChiefGrades$Chief" "desk" "I", Cond.methodLink RX11 152 yX10_teamBits, Cond.methodLink RX11 156 yJ6_bitCount_0f7a4, Cond.methodLink RL 45 yX12_by, Cond.instanceMethod yX12_by, Cond.selects RX12 yX12_by yX12_by, Cond.code yX12_by cX12_by 5 (some .int), Cond.methodLink RL 46 yX11_move, Cond.instanceMethod yX11_move, Cond.selects RX11 yX11_move yX11_move, Cond.code yX11_move cX11_move 4 (some .int), Cond.methodLink RL 49 yX12_move, Cond.instanceMethod yX12_move, Cond.selects RX12 yX12_move yX12_move, Cond.code yX12_move cX12_move 4 (some .int), Cond.methodLink RL 50 yX11_set]
def wsL_law_r30 : List Cond := [Cond.instanceMethod yX11_set, Cond.selects RX11 yX11_set yX11_set, Cond.code yX11_set cX11_set 6 (some .int), Cond.methodLink RL 53 yX12_set, Cond.instanceMethod yX12_set, Cond.selects RX12 yX12_set yX12_set, Cond.code yX12_set cX12_set 6 (some .int), Cond.methodLink RL 54 yX11_fresh, Cond.instanceMethod yX11_fresh, Cond.selects RX11 yX11_fresh yX11_fresh, Cond.code yX11_fresh cX11_fresh 4 (some .int), Cond.methodLink RL 57 yX12_fresh, Cond.instanceMethod yX12_fresh, Cond.selects RX12 yX12_fresh yX12_fresh, Cond.code yX12_fresh cX12_fresh 4 (some .int), Cond.methodLink RL 58 yX11_mark, Cond.methodLink RL 61 yX12_mark, Cond.instanceMethod yX12_mark, Cond.selects RX12 yX12_mark yX12_mark, Cond.code yX12_mark cX12_mark 3 (some .int), Cond.methodLink RL 62 yX11_wrong, Cond.instanceMethod yX11_wrong, Cond.selects RX11 yX11_wrong yX11_wrong, Cond.code yX11_wrong cX11_wrong 7 (some .int)]
def wsL_law_r31 : List Cond := [Cond.methodLink RX11 165 arraycopyName, Cond.native arraycopyName, Cond.static arraycopyName, Cond.initialized "java/lang/System", Cond.methodLink RX11 171 yX1_gradeAll, Cond.instanceMethod yX1_gradeAll, Cond.selects RX1 yX1_gradeAll yX1_gradeAll, Cond.code yX1_gradeAll cX1_gradeAll 4 none, Cond.methodLink RL 65 yX12_wrong, Cond.instanceMethod yX12_wrong, Cond.selects RX12 yX12_wrong yX12_wrong, Cond.code yX12_wrong cX12_wrong 6 (some .int), Cond.methodLink RL 66 yX11_moved, Cond.instanceMethod yX11_moved, Cond.selects RX11 yX11_moved yX11_moved, Cond.code yX11_moved cX11_moved 4 (some .int), Cond.methodLink RX11 174 yX11_gradeUnder, Cond.instanceMethod yX11_gradeUnder, Cond.selects RX11 yX11_gradeUnder yX11_gradeUnder, Cond.code yX11_gradeUnder cX11_gradeUnder 3 (some .int), Cond.fieldLink RX11 178 "ChiefGrades$Chief" "number" "I", Cond.methodLink RX11 185 yX10_become, Cond.instanceMethod yX10_become, Cond.selects RX10 yX10_become yX10_become]
def wsL_law_r32 : List Cond := [Cond.code yX10_become cX10_become 3 none, Cond.fieldLink RX10 68 "ChiefGrades$World" "houses" "I", Cond.fieldLink RX10 71 "ChiefGrades$World" "rows" "I", Cond.fieldLink RX10 74 "ChiefGrades$World" "signs" "I", Cond.fieldLink RX10 77 "ChiefGrades$World" "year" "I", Cond.methodLink RX10 80 arraycopyName, Cond.methodLink RL 69 yX12_moved, Cond.instanceMethod yX12_moved, Cond.selects RX12 yX12_moved yX12_moved, Cond.code yX12_moved cX12_moved 3 (some .int), Cond.methodLink RX12 200 yX12_movedOf, Cond.instanceMethod yX12_movedOf, Cond.selects RX12 yX12_movedOf yX12_movedOf, Cond.code yX12_movedOf cX12_movedOf 4 (some .int), Cond.methodLink RL 70 yX11_best, Cond.instanceMethod yX11_best, Cond.selects RX11 yX11_best yX11_best, Cond.code yX11_best cX11_best 8 (some .int), Cond.methodLink RL 73 yX12_best, Cond.instanceMethod yX12_best, Cond.selects RX12 yX12_best yX12_best, Cond.code yX12_best cX12_best 7 (some .int), Cond.methodLink RL 74 yX11_asked, Cond.instanceMethod yX11_asked]
def wsL_law_r33 : List Cond := [Cond.selects RX11 yX11_asked yX11_asked, Cond.code yX11_asked cX11_asked 6 (some .int), Cond.methodLink RX11 181 yX1_gradeTeam, Cond.methodLink RL 77 yX12_asked, Cond.instanceMethod yX12_asked, Cond.selects RX12 yX12_asked yX12_asked, Cond.code yX12_asked cX12_asked 8 (some .int), Cond.methodLink RL 78 yX11_swap, Cond.instanceMethod yX11_swap, Cond.selects RX11 yX11_swap yX11_swap, Cond.code yX11_swap cX11_swap 6 (some .int), Cond.methodLink RX11 188 yX11_bothGain, Cond.instanceMethod yX11_bothGain, Cond.selects RX11 yX11_bothGain yX11_bothGain, Cond.code yX11_bothGain cX11_bothGain 4 (some .boolean), Cond.methodLink RX11 251 yX10_exchange, Cond.instanceMethod yX10_exchange, Cond.selects RX10 yX10_exchange yX10_exchange, Cond.code yX10_exchange cX10_exchange 5 none, Cond.methodLink RL 81 yX12_swap, Cond.instanceMethod yX12_swap, Cond.selects RX12 yX12_swap yX12_swap, Cond.code yX12_swap cX12_swap 9 (some .int), Cond.methodLink RX12 203 yX12_changes]
def wsL_law_r34 : List Cond := [Cond.instanceMethod yX12_changes, Cond.selects RX12 yX12_changes yX12_changes, Cond.code yX12_changes cX12_changes 5 none, Cond.methodLink RL 82 yX11_year, Cond.instanceMethod yX11_year, Cond.selects RX11 yX11_year yX11_year, Cond.code yX11_year cX11_year 1 (some .int), Cond.methodLink RX11 191 yX11_goYear, Cond.instanceMethod yX11_goYear, Cond.selects RX11 yX11_goYear yX11_goYear, Cond.code yX11_goYear cX11_goYear 6 (some .int), Cond.methodLink RX11 255 Lib.Math.min.name, Cond.methodLink RX11 260 yX11_outByLot, Cond.static yX11_outByLot, Cond.code yX11_outByLot cX11_outByLot 3 none, Cond.methodLink RX11 267 yX10_replace, Cond.instanceMethod yX10_replace, Cond.selects RX10 yX10_replace yX10_replace, Cond.code yX10_replace cX10_replace 2 none, Cond.methodLink RX10 86 yX10_hasWorker, Cond.methodLink RX11 264 yX11_outByGrade, Cond.instanceMethod yX11_outByGrade, Cond.selects RX11 yX11_outByGrade yX11_outByGrade, Cond.code yX11_outByGrade cX11_outByGrade 3 none]
def wsL_law_r35 : List Cond := [Cond.methodLink RL 85 yX12_year, Cond.instanceMethod yX12_year, Cond.selects RX12 yX12_year yX12_year, Cond.code yX12_year cX12_year 1 (some .int), Cond.methodLink RX12 209 yX12_yearGoes, Cond.instanceMethod yX12_yearGoes, Cond.selects RX12 yX12_yearGoes yX12_yearGoes, Cond.code yX12_yearGoes cX12_yearGoes 7 (some .int), Cond.methodLink RX12 206 yX12_newOne, Cond.instanceMethod yX12_newOne, Cond.selects RX12 yX12_newOne yX12_newOne, Cond.code yX12_newOne cX12_newOne 2 none, Cond.methodLink RL 86 yX11_years, Cond.instanceMethod yX11_years, Cond.selects RX11 yX11_years yX11_years, Cond.code yX11_years cX11_years 6 (some .int), Cond.methodLink RX11 194 yX10_worthTogether, Cond.instanceMethod yX10_worthTogether, Cond.selects RX10 yX10_worthTogether yX10_worthTogether, Cond.code yX10_worthTogether cX10_worthTogether 3 (some .int), Cond.methodLink RL 89 yX12_years, Cond.instanceMethod yX12_years, Cond.selects RX12 yX12_years yX12_years, Cond.code yX12_years cX12_years 7 (some .int)]
def wsL_law_r36 : List Cond := [Cond.methodLink RX12 212 yX12_keeps, Cond.instanceMethod yX12_keeps, Cond.selects RX12 yX12_keeps yX12_keeps, Cond.code yX12_keeps cX12_keeps 2 none, Cond.methodLink RX12 215 yX12_goesBack, Cond.instanceMethod yX12_goesBack, Cond.selects RX12 yX12_goesBack yX12_goesBack, Cond.code yX12_goesBack cX12_goesBack 2 none, Cond.methodLink RL 90 yX11_chance, Cond.instanceMethod yX11_chance, Cond.selects RX11 yX11_chance yX11_chance, Cond.code yX11_chance cX11_chance 6 (some .long), Cond.constantLong RX11 197 (-9223372036854775808), Cond.methodLink RX11 199 yX11_choices, Cond.static yX11_choices, Cond.code yX11_choices cX11_choices 5 (some .long), Cond.methodLink RX11 203 yX11_lowest, Cond.static yX11_lowest, Cond.code yX11_lowest cX11_lowest 12 (some .long), Cond.methodLink RX11 271 Lib.MathLoose.abs_long.x, Cond.static Lib.MathLoose.abs_long.x, Cond.code Lib.MathLoose.abs_long.x Lib.MathLoose.abs_long.code 2 (some .long), Cond.methodLink RL 94 yX12_chance, Cond.instanceMethod yX12_chance]
def wsL_law_r37 : List Cond := [Cond.selects RX12 yX12_chance yX12_chance, Cond.code yX12_chance cX12_chance 6 (some .long), Cond.constantLong RX12 222 (-9223372036854775808), Cond.methodLink RX12 224 yX12_chooses, Cond.static yX12_chooses, Cond.code yX12_chooses cX12_chooses 5 (some .long), Cond.methodLink RX12 228 yX12_lowest, Cond.static yX12_lowest, Cond.code yX12_lowest cX12_lowest 5 (some .long), Cond.methodLink RX12 218 yX12_divisor, Cond.static yX12_divisor, Cond.code yX12_divisor cX12_divisor 10 (some .long), Cond.methodLink RL 95 yX11_book, Cond.instanceMethod yX11_book, Cond.selects RX11 yX11_book yX11_book, Cond.code yX11_book cX11_book 4 (some .int), Cond.fieldLink RX11 207 "ChiefGrades$World" "rows" "I", Cond.fieldLink RX11 210 "ChiefGrades$World" "rowWorker" "[I", Cond.fieldLink RX11 213 "ChiefGrades$World" "rowChief" "[I", Cond.fieldLink RX11 216 "ChiefGrades$World" "rowGrade" "[I", Cond.methodLink RL 98 yX12_book, Cond.instanceMethod yX12_book, Cond.selects RX12 yX12_book yX12_book, Cond.code yX12_book cX12_book 5 (some .int)]
def wsL_law_r38 : List Cond := [Cond.methodLink RL 99 yX11_clear, Cond.instanceMethod yX11_clear, Cond.selects RX11 yX11_clear yX11_clear, Cond.code yX11_clear cX11_clear 2 (some .int), Cond.methodLink RL 102 yX12_clear, Cond.instanceMethod yX12_clear, Cond.selects RX12 yX12_clear yX12_clear, Cond.code yX12_clear cX12_clear 2 (some .int), Cond.methodLink RL 103 yX11_nets, Cond.instanceMethod yX11_nets, Cond.selects RX11 yX11_nets yX11_nets, Cond.code yX11_nets cX11_nets 2 (some .int), Cond.methodLink RX11 219 yX11_howManyNets, Cond.instanceMethod yX11_howManyNets, Cond.selects RX11 yX11_howManyNets yX11_howManyNets, Cond.code yX11_howManyNets cX11_howManyNets 4 (some .int), Cond.methodLink RX11 222 yX11_netOf, Cond.instanceMethod yX11_netOf, Cond.selects RX11 yX11_netOf yX11_netOf, Cond.code yX11_netOf cX11_netOf 4 (some .int), Cond.methodLink RX11 275 yX11_neighbours, Cond.instanceMethod yX11_neighbours, Cond.selects RX11 yX11_neighbours yX11_neighbours, Cond.code yX11_neighbours cX11_neighbours 5 (some .int)]
def wsL_law_r39 : List Cond := [Cond.methodLink RL 106 yX12_nets, Cond.instanceMethod yX12_nets, Cond.selects RX12 yX12_nets yX12_nets, Cond.code yX12_nets cX12_nets 4 (some .int), Cond.methodLink RX12 239 yX12_netOf, Cond.instanceMethod yX12_netOf, Cond.selects RX12 yX12_netOf yX12_netOf, Cond.code yX12_netOf cX12_netOf 6 (some .int), Cond.methodLink RX12 235 yX12_haveBoth, Cond.instanceMethod yX12_haveBoth, Cond.selects RX12 yX12_haveBoth yX12_haveBoth, Cond.code yX12_haveBoth cX12_haveBoth 5 (some .boolean), Cond.methodLink RX12 232 yX12_firstRow, Cond.instanceMethod yX12_firstRow, Cond.selects RX12 yX12_firstRow yX12_firstRow, Cond.code yX12_firstRow cX12_firstRow 4 (some .int), Cond.methodLink RL 107 yX11_leans, Cond.instanceMethod yX11_leans, Cond.selects RX11 yX11_leans yX11_leans, Cond.code yX11_leans cX11_leans 9 (some .long), Cond.methodLink RX11 225 yX10_firstGrade, Cond.instanceMethod yX10_firstGrade, Cond.selects RX10 yX10_firstGrade yX10_firstGrade, Cond.code yX10_firstGrade cX10_firstGrade 4 (some .int)]
def wsL_law_r40 : List Cond := [Cond.methodLink RL 111 yX12_leans, Cond.instanceMethod yX12_leans, Cond.selects RX12 yX12_leans yX12_leans, Cond.code yX12_leans cX12_leans 9 (some .long), Cond.methodLink RL 112 yX11_looked, Cond.instanceMethod yX11_looked, Cond.selects RX11 yX11_looked yX11_looked, Cond.code yX11_looked cX11_looked 3 (some .int), Cond.methodLink RL 115 yX12_looked, Cond.instanceMethod yX12_looked, Cond.selects RX12 yX12_looked yX12_looked, Cond.code yX12_looked cX12_looked 2 (some .int), Cond.methodLink RL 116 yX11_act, Cond.instanceMethod yX11_act, Cond.selects RX11 yX11_act yX11_act, Cond.code yX11_act cX11_act 5 (some .int), Cond.fieldLink RX11 228 "ChiefGrades$Trace" "bodies" "I", Cond.methodLink RX11 231 yX0_works, Cond.instanceMethod yX0_works, Cond.selects RX0 yX0_works yX0_works, Cond.code yX0_works cX0_works 3 (some .int), Cond.methodLink RX0 43 yX8_begin, Cond.instanceMethod yX8_begin, Cond.selects RX8 yX8_begin yX8_begin]
def wsL_law_r41 : List Cond := [Cond.code yX8_begin cX8_begin 2 none, Cond.fieldLink RX8 15 "ChiefGrades$Trace" "bodies" "I", Cond.methodLink RX11 231 ⟨"ChiefGrades$Chief", "works", "(ILChiefGrades$Trace;)I"⟩, Cond.sameMethod "ChiefGrades$Chief" "ChiefGrades$Chief" "works" "(ILChiefGrades$Trace;)I", Cond.instanceMethod ⟨"ChiefGrades$Chief", "works", "(ILChiefGrades$Trace;)I"⟩, Cond.selects RX3 ⟨"ChiefGrades$Chief", "works", "(ILChiefGrades$Trace;)I"⟩ yX3_works, Cond.instanceMethod yX3_works, Cond.code yX3_works cX3_works 3 (some .int), Cond.fieldLink RX3 27 "ChiefGrades$Keeping" "number" "I", Cond.sameField "ChiefGrades$Keeping" "ChiefGrades$Chief" "number" "I", Cond.methodLink RX3 17 yX8_begin, Cond.selects RX4 ⟨"ChiefGrades$Chief", "works", "(ILChiefGrades$Trace;)I"⟩ yX0_works, Cond.selects RX5 ⟨"ChiefGrades$Chief", "works", "(ILChiefGrades$Trace;)I"⟩ yX5_works, Cond.instanceMethod yX5_works, Cond.code yX5_works cX5_works 3 (some .int), Cond.methodLink RX5 13 yX8_begin, Cond.methodLink RX5 19 yX0_works, Cond.superclass RX5 RX0, Cond.selects RX6 ⟨"ChiefGrades$Chief", "works", "(ILChiefGrades$Trace;)I"⟩ yX5_works, Cond.selects RX7 ⟨"ChiefGrades$Chief", "works", "(ILChiefGrades$Trace;)I"⟩ yX0_works, Cond.selects RX9 ⟨"ChiefGrades$Chief", "works", "(ILChiefGrades$Trace;)I"⟩ yX0_works, Cond.methodLink RX11 235 yX0_grades, Cond.instanceMethod yX0_grades, Cond.selects RX0 yX0_grades yX0_grades]
def wsL_law_r42 : List Cond := [Cond.code yX0_grades cX0_grades 3 (some .int), Cond.methodLink RX0 49 yX0_works, Cond.methodLink RX0 49 ⟨"ChiefGrades$Chief", "works", "(ILChiefGrades$Trace;)I"⟩, Cond.methodLink RX11 235 ⟨"ChiefGrades$Chief", "grades", "(ILChiefGrades$Trace;)I"⟩, Cond.sameMethod "ChiefGrades$Chief" "ChiefGrades$Chief" "grades" "(ILChiefGrades$Trace;)I", Cond.instanceMethod ⟨"ChiefGrades$Chief", "grades", "(ILChiefGrades$Trace;)I"⟩, Cond.selects RX3 ⟨"ChiefGrades$Chief", "grades", "(ILChiefGrades$Trace;)I"⟩ yX9_grades, Cond.instanceMethod yX9_grades, Cond.code yX9_grades cX9_grades 3 (some .int), Cond.methodLink RX9 7 yX8_begin, Cond.methodLink RX9 13 yX0_grades, Cond.superclass RX9 RX0, Cond.selects RX4 ⟨"ChiefGrades$Chief", "grades", "(ILChiefGrades$Trace;)I"⟩ yX0_grades, Cond.selects RX5 ⟨"ChiefGrades$Chief", "grades", "(ILChiefGrades$Trace;)I"⟩ yX0_grades, Cond.selects RX6 ⟨"ChiefGrades$Chief", "grades", "(ILChiefGrades$Trace;)I"⟩ yX0_grades, Cond.selects RX7 ⟨"ChiefGrades$Chief", "grades", "(ILChiefGrades$Trace;)I"⟩ yX7_grades, Cond.instanceMethod yX7_grades, Cond.code yX7_grades cX7_grades 3 (some .int), Cond.methodLink RX7 13 yX8_begin, Cond.selects RX9 ⟨"ChiefGrades$Chief", "grades", "(ILChiefGrades$Trace;)I"⟩ yX9_grades, Cond.methodLink RX11 238 yX0_levels, Cond.instanceMethod yX0_levels, Cond.selects RX0 yX0_levels yX0_levels, Cond.code yX0_levels cX0_levels 3 (some .int)]
def wsL_law_r43 : List Cond := [Cond.methodLink RX0 53 yX0_grades, Cond.methodLink RX0 53 ⟨"ChiefGrades$Chief", "grades", "(ILChiefGrades$Trace;)I"⟩, Cond.methodLink RX11 238 ⟨"ChiefGrades$Chief", "levels", "(ILChiefGrades$Trace;)I"⟩, Cond.sameMethod "ChiefGrades$Chief" "ChiefGrades$Chief" "levels" "(ILChiefGrades$Trace;)I", Cond.selects RX3 ⟨"ChiefGrades$Chief", "levels", "(ILChiefGrades$Trace;)I"⟩ yX0_levels, Cond.instanceMethod ⟨"ChiefGrades$Chief", "levels", "(ILChiefGrades$Trace;)I"⟩, Cond.selects RX4 ⟨"ChiefGrades$Chief", "levels", "(ILChiefGrades$Trace;)I"⟩ yX4_levels, Cond.instanceMethod yX4_levels, Cond.code yX4_levels cX4_levels 3 (some .int), Cond.methodLink RX4 13 yX8_begin, Cond.methodLink RX4 19 yX0_levels, Cond.superclass RX4 RX0, Cond.selects RX5 ⟨"ChiefGrades$Chief", "levels", "(ILChiefGrades$Trace;)I"⟩ yX0_levels, Cond.selects RX6 ⟨"ChiefGrades$Chief", "levels", "(ILChiefGrades$Trace;)I"⟩ yX6_levels, Cond.instanceMethod yX6_levels, Cond.code yX6_levels cX6_levels 3 (some .int), Cond.methodLink RX6 22 yX8_begin, Cond.methodLink RX6 32 ⟨"ChiefGrades$Near", "works", "(ILChiefGrades$Trace;)I"⟩, Cond.sameMethod "ChiefGrades$Near" "ChiefGrades$Lenient" "works" "(ILChiefGrades$Trace;)I", Cond.selects RX6 ⟨"ChiefGrades$Near", "works", "(ILChiefGrades$Trace;)I"⟩ yX5_works, Cond.selects RX7 ⟨"ChiefGrades$Chief", "levels", "(ILChiefGrades$Trace;)I"⟩ yX4_levels, Cond.selects RX9 ⟨"ChiefGrades$Chief", "levels", "(ILChiefGrades$Trace;)I"⟩ yX0_levels, Cond.methodLink RL 119 yX12_act, Cond.instanceMethod yX12_act]
def wsL_law_r44 : List Cond := [Cond.selects RX12 yX12_act yX12_act, Cond.code yX12_act cX12_act 4 (some .int), Cond.fieldLink RX12 242 "ChiefGradesModel" "ran" "I", Cond.fieldLink RX12 251 "ChiefGradesModel" "kind" "I", Cond.fieldLink RX12 248 "ChiefGradesModel" "number" "I", Cond.fieldLink RX12 263 "ChiefGradesModel" "tellsV" "I", Cond.methodLink RX12 260 yX12_worksActs, Cond.instanceMethod yX12_worksActs, Cond.selects RX12 yX12_worksActs yX12_worksActs, Cond.code yX12_worksActs cX12_worksActs 2 (some .int), Cond.methodLink RX12 254 yX12_isUnder, Cond.static yX12_isUnder, Cond.code yX12_isUnder cX12_isUnder 2 (some .boolean), Cond.methodLink RX12 245 yX12_ranBody, Cond.instanceMethod yX12_ranBody, Cond.selects RX12 yX12_ranBody yX12_ranBody, Cond.code yX12_ranBody cX12_ranBody 2 none, Cond.methodLink RX12 257 yX12_plainWorks, Cond.instanceMethod yX12_plainWorks, Cond.selects RX12 yX12_plainWorks yX12_plainWorks, Cond.code yX12_plainWorks cX12_plainWorks 2 (some .int), Cond.methodLink RX12 269 yX12_gradesActs, Cond.instanceMethod yX12_gradesActs, Cond.selects RX12 yX12_gradesActs yX12_gradesActs]
def wsL_law_r45 : List Cond := [Cond.code yX12_gradesActs cX12_gradesActs 2 (some .int), Cond.methodLink RX12 266 yX12_plainGrades, Cond.instanceMethod yX12_plainGrades, Cond.selects RX12 yX12_plainGrades yX12_plainGrades, Cond.code yX12_plainGrades cX12_plainGrades 2 (some .int), Cond.methodLink RX12 275 yX12_levelsActs, Cond.instanceMethod yX12_levelsActs, Cond.selects RX12 yX12_levelsActs yX12_levelsActs, Cond.code yX12_levelsActs cX12_levelsActs 3 (some .int), Cond.methodLink RX12 272 yX12_plainLevels, Cond.instanceMethod yX12_plainLevels, Cond.selects RX12 yX12_plainLevels yX12_plainLevels, Cond.code yX12_plainLevels cX12_plainLevels 2 (some .int), Cond.methodLink RL 120 yX11_trace, Cond.instanceMethod yX11_trace, Cond.selects RX11 yX11_trace yX11_trace, Cond.code yX11_trace cX11_trace 2 (some .int), Cond.fieldLink RX11 241 "ChiefGrades$Trace" "first" "[I", Cond.methodLink RL 123 yX12_trace, Cond.instanceMethod yX12_trace, Cond.selects RX12 yX12_trace yX12_trace, Cond.code yX12_trace cX12_trace 2 (some .int), Cond.methodLink RL 124 yX11_as, Cond.instanceMethod yX11_as]
def wsL_law_r46 : List Cond := [Cond.selects RX11 yX11_as yX11_as, Cond.code yX11_as cX11_as 4 (some .int), Cond.methodLink RX11 244 yX0_isOfKind, Cond.instanceMethod yX0_isOfKind, Cond.selects RX0 yX0_isOfKind yX0_isOfKind, Cond.code yX0_isOfKind cX0_isOfKind 2 (some .boolean), Cond.classLink RX0 22 "ChiefGrades$Lenient", Cond.classLink RX0 27 "ChiefGrades$Turning", Cond.classLink RX0 30 "ChiefGrades$Lately", Cond.classLink RX0 33 "ChiefGrades$Near", Cond.classLink RX0 36 "ChiefGrades$Keeping", Cond.classLink RX0 39 "ChiefGrades$Talking", Cond.methodLink RX11 244 ⟨"ChiefGrades$Chief", "isOfKind", "(I)Z"⟩, Cond.sameMethod "ChiefGrades$Chief" "ChiefGrades$Chief" "isOfKind" "(I)Z", Cond.selects RX3 ⟨"ChiefGrades$Chief", "isOfKind", "(I)Z"⟩ yX0_isOfKind, Cond.selects RX4 ⟨"ChiefGrades$Chief", "isOfKind", "(I)Z"⟩ yX0_isOfKind, Cond.selects RX5 ⟨"ChiefGrades$Chief", "isOfKind", "(I)Z"⟩ yX0_isOfKind, Cond.selects RX6 ⟨"ChiefGrades$Chief", "isOfKind", "(I)Z"⟩ yX0_isOfKind, Cond.selects RX7 ⟨"ChiefGrades$Chief", "isOfKind", "(I)Z"⟩ yX0_isOfKind, Cond.selects RX9 ⟨"ChiefGrades$Chief", "isOfKind", "(I)Z"⟩ yX0_isOfKind, Cond.methodLink RL 127 yX12_as, Cond.instanceMethod yX12_as, Cond.selects RX12 yX12_as yX12_as, Cond.code yX12_as cX12_as 3 (some .int)]
def wsL_law_r47 : List Cond := [Cond.methodLink RL 128 yX11_image, Cond.instanceMethod yX11_image, Cond.selects RX11 yX11_image yX11_image, Cond.code yX11_image cX11_image 1 (some .int), Cond.fieldLink RX11 247 "ChiefGrades" "hasImage" "Z", Cond.methodLink RL 131 yX12_image, Cond.instanceMethod yX12_image, Cond.selects RX12 yX12_image yX12_image, Cond.code yX12_image cX12_image 2 (some .int), Cond.fieldLink RX12 278 "ChiefGradesModel" "hasImage" "Z", Cond.methodLink RL 132 yX11_undo, Cond.instanceMethod yX11_undo, Cond.selects RX11 yX11_undo yX11_undo, Cond.code yX11_undo cX11_undo 1 (some .int), Cond.methodLink RL 135 yX12_undo, Cond.instanceMethod yX12_undo, Cond.selects RX12 yX12_undo yX12_undo, Cond.code yX12_undo cX12_undo 2 (some .int), Cond.methodLink RL 136 yX11_count, Cond.instanceMethod yX11_count, Cond.selects RX11 yX11_count yX11_count, Cond.code yX11_count cX11_count 2 (some .int), Cond.methodLink RL 139 yX12_count, Cond.instanceMethod yX12_count]
def wsL_law_r48 : List Cond := [Cond.selects RX12 yX12_count yX12_count, Cond.code yX12_count cX12_count 2 (some .int)]
def wsL_law : List Cond := (wsL_law_r1 ++ (wsL_law_r2 ++ (wsL_law_r3 ++ (wsL_law_r4 ++ (wsL_law_r5 ++ (wsL_law_r6 ++ (wsL_law_r7 ++ (wsL_law_r8 ++ (wsL_law_r9 ++ (wsL_law_r10 ++ (wsL_law_r11 ++ (wsL_law_r12 ++ (wsL_law_r13 ++ (wsL_law_r14 ++ (wsL_law_r15 ++ (wsL_law_r16 ++ (wsL_law_r17 ++ (wsL_law_r18 ++ (wsL_law_r19 ++ (wsL_law_r20 ++ (wsL_law_r21 ++ (wsL_law_r22 ++ (wsL_law_r23 ++ (wsL_law_r24 ++ (wsL_law_r25 ++ (wsL_law_r26 ++ (wsL_law_r27 ++ (wsL_law_r28 ++ (wsL_law_r29 ++ (wsL_law_r30 ++ (wsL_law_r31 ++ (wsL_law_r32 ++ (wsL_law_r33 ++ (wsL_law_r34 ++ (wsL_law_r35 ++ (wsL_law_r36 ++ (wsL_law_r37 ++ (wsL_law_r38 ++ (wsL_law_r39 ++ (wsL_law_r40 ++ (wsL_law_r41 ++ (wsL_law_r42 ++ (wsL_law_r43 ++ (wsL_law_r44 ++ (wsL_law_r45 ++ (wsL_law_r46 ++ (wsL_law_r47 ++ wsL_law_r48))))))))))))))))))))))))))))))))))))))))))))))) ++ wsX110 ++ wsX120 ++ wsX100 ++ wsX10 ++ wsX80 ++ wsX20 ++ wsX00 ++ wsX30 ++ wsX40 ++ wsX50 ++ wsX60 ++ wsX70 ++ wsX90 ++ ([] : List Cond)
theorem wsL_law_r1_at : ∀ w ∈ wsL_law_r1, w ∈ lw_tbl := fun w h => (goodIn_r wsL_law_r1 [89, 90, 68, 974, 975, 75, 91, 92, 93, 94, 95, 96, 97, 98, 69, 324, 325, 326, 243, 244, 72, 327, 309, 310] (by decide +kernel) (by decide +kernel) w h).1
theorem wsL_law_r2_at : ∀ w ∈ wsL_law_r2, w ∈ lw_tbl := fun w h => (goodIn_r wsL_law_r2 [74, 328, 156, 329, 99, 100, 101, 102, 173, 175, 177, 180, 183, 186, 189, 103, 191, 193, 195, 197, 157, 199, 105, 106] (by decide +kernel) (by decide +kernel) w h).1
theorem wsL_law_r3_at : ∀ w ∈ wsL_law_r3, w ∈ lw_tbl := fun w h => (goodIn_r wsL_law_r3 [70, 201, 107, 108, 109, 110, 117, 120, 123, 125, 111, 112, 71, 113, 114, 115, 116, 126, 129, 130, 131, 245, 246, 247] (by decide +kernel) (by decide +kernel) w h).1
theorem wsL_law_r4_at : ∀ w ∈ wsL_law_r4, w ∈ lw_tbl := fun w h => (goodIn_r wsL_law_r4 [248, 286, 288, 289, 290, 292, 249, 250, 73, 293, 251, 252, 253, 254, 255, 258, 263, 273, 311, 312, 313, 314, 315, 976] (by decide +kernel) (by decide +kernel) w h).1
theorem wsL_law_r5_at : ∀ w ∈ wsL_law_r5, w ∈ lw_tbl := fun w h => (goodIn_r wsL_law_r5 [977, 978, 979, 980, 981, 982, 989, 1046, 990, 991, 992, 993, 994, 995, 996, 346, 347, 348, 349, 168, 200, 1047, 1048, 1049] (by decide +kernel) (by decide +kernel) w h).1
theorem wsL_law_r6_at : ∀ w ∈ wsL_law_r6, w ∈ lw_tbl := fun w h => (goodIn_r wsL_law_r6 [1050, 1051, 1052, 1053, 350, 351, 352, 353, 165, 354, 203, 355, 356, 357, 358, 359, 128, 127, 360, 362, 0, 363, 365, 367] (by decide +kernel) (by decide +kernel) w h).1
theorem wsL_law_r7_at : ∀ w ∈ wsL_law_r7, w ∈ lw_tbl := fun w h => (goodIn_r wsL_law_r7 [1, 368, 369, 371, 2, 372, 373, 374, 375, 76, 376, 1390, 377, 378, 379, 380, 381, 1391, 383, 384, 385, 386, 387, 388] (by decide +kernel) (by decide +kernel) w h).1
theorem wsL_law_r8_at : ∀ w ∈ wsL_law_r8, w ∈ lw_tbl := fun w h => (goodIn_r wsL_law_r8 [389, 390, 391, 392, 77, 393, 394, 395, 396, 397, 399, 400, 78, 401, 402, 403, 79, 404, 405, 406, 407, 408, 409, 410] (by decide +kernel) (by decide +kernel) w h).1
theorem wsL_law_r9_at : ∀ w ∈ wsL_law_r9, w ∈ lw_tbl := fun w h => (goodIn_r wsL_law_r9 [411, 412, 413, 414, 415, 417, 419, 421, 423, 3, 424, 425, 427, 4, 428, 429, 431, 5, 432, 433, 435, 6, 497, 499] (by decide +kernel) (by decide +kernel) w h).1
theorem wsL_law_r10_at : ∀ w ∈ wsL_law_r10, w ∈ lw_tbl := fun w h => (goodIn_r wsL_law_r10 [8, 500, 132, 436, 437, 439, 7, 440, 442, 443, 444, 445, 446, 447, 448, 449, 450, 451, 452, 453, 457, 458, 454, 455] (by decide +kernel) (by decide +kernel) w h).1
theorem wsL_law_r11_at : ∀ w ∈ wsL_law_r11, w ∈ lw_tbl := fun w h => (goodIn_r wsL_law_r11 [456, 459, 460, 461, 462, 463, 464, 465, 466, 467, 468, 469, 470, 471, 472, 473, 474, 475, 476, 477, 478, 479, 480, 481] (by decide +kernel) (by decide +kernel) w h).1
theorem wsL_law_r12_at : ∀ w ∈ wsL_law_r12, w ∈ lw_tbl := fun w h => (goodIn_r wsL_law_r12 [482, 483, 484, 485, 486, 487, 80, 488, 489, 490, 491, 492, 493, 494, 495, 496, 503, 505, 9, 506, 1054, 1055, 1056, 1057] (by decide +kernel) (by decide +kernel) w h).1
theorem wsL_law_r13_at : ∀ w ∈ wsL_law_r13, w ∈ lw_tbl := fun w h => (goodIn_r wsL_law_r13 [984, 986, 985, 987, 988, 1058, 1060, 22, 1061, 1062, 1064, 23, 1065, 1067, 1069, 24, 1070, 1071, 1073, 25, 1074, 1075, 1076, 1077] (by decide +kernel) (by decide +kernel) w h).1
theorem wsL_law_r14_at : ∀ w ∈ wsL_law_r14, w ∈ lw_tbl := fun w h => (goodIn_r wsL_law_r14 [1079, 26, 1080, 1081, 1083, 27, 1084, 1085, 1087, 28, 1088, 1089, 1091, 29, 1097, 1099, 31, 1100, 1092, 1093, 1095, 30, 1096, 1102] (by decide +kernel) (by decide +kernel) w h).1
theorem wsL_law_r15_at : ∀ w ∈ wsL_law_r15, w ∈ lw_tbl := fun w h => (goodIn_r wsL_law_r15 [1104, 32, 1105, 1109, 1111, 33, 1112, 510, 511, 512, 513, 118, 121, 124, 172, 174, 176, 1115, 1116, 1117, 1118, 1119, 1121, 34] (by decide +kernel) (by decide +kernel) w h).1
theorem wsL_law_r16_at : ∀ w ∈ wsL_law_r16, w ∈ lw_tbl := fun w h => (goodIn_r wsL_law_r16 [1122, 514, 515, 516, 517, 163, 192, 518, 519, 520, 521, 522, 523, 524, 525, 81, 535, 536, 82, 546, 547, 83, 557, 558] (by decide +kernel) (by decide +kernel) w h).1
theorem wsL_law_r17_at : ∀ w ∈ wsL_law_r17, w ∈ lw_tbl := fun w h => (goodIn_r wsL_law_r17 [84, 568, 569, 85, 579, 580, 86, 590, 526, 527, 528, 529, 537, 538, 539, 540, 548, 549, 550, 551, 559, 560, 561, 562] (by decide +kernel) (by decide +kernel) w h).1
theorem wsL_law_r18_at : ∀ w ∈ wsL_law_r18, w ∈ lw_tbl := fun w h => (goodIn_r wsL_law_r18 [570, 571, 572, 573, 581, 582, 583, 584, 591, 1123, 1124, 1125, 1126, 592, 593, 594, 595, 160, 179, 182, 185, 188, 190, 596] (by decide +kernel) (by decide +kernel) w h).1
theorem wsL_law_r19_at : ∀ w ∈ wsL_law_r19, w ∈ lw_tbl := fun w h => (goodIn_r wsL_law_r19 [597, 598, 599, 161, 1127, 1128, 1129, 1130, 1131, 1133, 35, 1134, 600, 601, 602, 603, 287, 604, 605, 606, 607, 158, 608, 609] (by decide +kernel) (by decide +kernel) w h).1
theorem wsL_law_r20_at : ∀ w ∈ wsL_law_r20, w ∈ lw_tbl := fun w h => (goodIn_r wsL_law_r20 [610, 611, 612, 613, 614, 615, 259, 256, 178, 171, 181, 187, 202, 616, 617, 618, 619, 620, 621, 622, 87, 623, 624, 625] (by decide +kernel) (by decide +kernel) w h).1
theorem wsL_law_r21_at : ∀ w ∈ wsL_law_r21, w ∈ lw_tbl := fun w h => (goodIn_r wsL_law_r21 [626, 627, 628, 629, 639, 627, 630, 631, 628, 632, 633, 634, 268, 269, 635, 636, 637, 638, 640, 641, 642, 660, 640, 643] (by decide +kernel) (by decide +kernel) w h).1
theorem wsL_law_r22_at : ∀ w ∈ wsL_law_r22, w ∈ lw_tbl := fun w h => (goodIn_r wsL_law_r22 [644, 645, 641, 646, 647, 648, 264, 265, 649, 650, 651, 274, 275, 653, 654, 655, 652, 1379, 567, 656, 657, 658, 266, 267] (by decide +kernel) (by decide +kernel) w h).1
theorem wsL_law_r23_at : ∀ w ∈ wsL_law_r23, w ∈ lw_tbl := fun w h => (goodIn_r wsL_law_r23 [659, 661, 662, 663, 664, 665, 666, 667, 668, 184, 669, 670, 671, 672, 673, 674, 676, 10, 677, 291, 678, 680, 11, 681] (by decide +kernel) (by decide +kernel) w h).1
theorem wsL_law_r24_at : ∀ w ∈ wsL_law_r24, w ∈ lw_tbl := fun w h => (goodIn_r wsL_law_r24 [682, 683, 685, 12, 686, 119, 122, 687, 688, 690, 13, 691, 692, 693, 694, 695, 696, 697, 710, 695, 698, 696, 699, 700] (by decide +kernel) (by decide +kernel) w h).1
theorem wsL_law_r25_at : ∀ w ∈ wsL_law_r25, w ∈ lw_tbl := fun w h => (goodIn_r wsL_law_r25 [701, 270, 271, 702, 1380, 578, 703, 704, 705, 706, 707, 708, 709, 711, 712, 713, 714, 159, 715, 716, 717, 718, 162, 719] (by decide +kernel) (by decide +kernel) w h).1
theorem wsL_law_r26_at : ∀ w ∈ wsL_law_r26, w ∈ lw_tbl := fun w h => (goodIn_r wsL_law_r26 [721, 14, 722, 1159, 1160, 1161, 1162, 1147, 1149, 37, 1150, 1163, 1165, 38, 1166, 1167, 1169, 39, 1170, 1139, 1141, 36, 1142, 1171] (by decide +kernel) (by decide +kernel) w h).1
theorem wsL_law_r27_at : ∀ w ∈ wsL_law_r27, w ∈ lw_tbl := fun w h => (goodIn_r wsL_law_r27 [1172, 1173, 1174, 1176, 40, 1177, 1178, 1180, 41, 1181, 1182, 1183, 1184, 1185, 1186, 1188, 42, 1189, 1190, 1192, 43, 1193, 1194, 1196] (by decide +kernel) (by decide +kernel) w h).1
theorem wsL_law_r28_at : ∀ w ∈ wsL_law_r28, w ∈ lw_tbl := fun w h => (goodIn_r wsL_law_r28 [44, 1197, 1198, 1200, 45, 1201, 1202, 1204, 46, 1205, 1206, 1208, 47, 1209, 1210, 1212, 48, 1213, 1214, 1216, 49, 1217, 1218, 1220] (by decide +kernel) (by decide +kernel) w h).1
theorem wsL_law_r29_at : ∀ w ∈ wsL_law_r29, w ∈ lw_tbl := fun w h => (goodIn_r wsL_law_r29 [50, 1221, 723, 724, 725, 726, 257, 272, 276, 727, 728, 1135, 1136, 1137, 1138, 729, 730, 731, 732, 1143, 1144, 1145, 1146, 733] (by decide +kernel) (by decide +kernel) w h).1
theorem wsL_law_r30_at : ∀ w ∈ wsL_law_r30, w ∈ lw_tbl := fun w h => (goodIn_r wsL_law_r30 [734, 735, 736, 1151, 1152, 1153, 1154, 737, 738, 739, 740, 1155, 1156, 1157, 1158, 741, 1222, 1223, 1224, 1225, 742, 743, 744, 745] (by decide +kernel) (by decide +kernel) w h).1
theorem wsL_law_r31_at : ∀ w ∈ wsL_law_r31, w ∈ lw_tbl := fun w h => (goodIn_r wsL_law_r31 [746, 748, 747, 88, 749, 750, 751, 752, 1226, 1227, 1228, 1229, 753, 754, 755, 756, 757, 759, 15, 760, 262, 761, 762, 763] (by decide +kernel) (by decide +kernel) w h).1
theorem wsL_law_r32_at : ∀ w ∈ wsL_law_r32, w ∈ lw_tbl := fun w h => (goodIn_r wsL_law_r32 [764, 164, 166, 169, 170, 765, 1230, 1231, 1232, 1233, 1234, 1236, 51, 1237, 766, 767, 768, 769, 1238, 1239, 1240, 1241, 770, 771] (by decide +kernel) (by decide +kernel) w h).1
theorem wsL_law_r33_at : ∀ w ∈ wsL_law_r33, w ∈ lw_tbl := fun w h => (goodIn_r wsL_law_r33 [772, 773, 774, 1242, 1243, 1244, 1245, 775, 776, 777, 778, 779, 781, 16, 782, 783, 784, 785, 786, 1246, 1247, 1248, 1249, 1250] (by decide +kernel) (by decide +kernel) w h).1
theorem wsL_law_r34_at : ∀ w ∈ wsL_law_r34, w ∈ lw_tbl := fun w h => (goodIn_r wsL_law_r34 [1252, 52, 1253, 787, 788, 789, 790, 791, 793, 17, 794, 795, 796, 797, 798, 799, 800, 801, 802, 803, 804, 806, 18, 807] (by decide +kernel) (by decide +kernel) w h).1
theorem wsL_law_r35_at : ∀ w ∈ wsL_law_r35, w ∈ lw_tbl := fun w h => (goodIn_r wsL_law_r35 [1254, 1255, 1256, 1257, 1258, 1260, 53, 1261, 1262, 1264, 54, 1265, 808, 809, 810, 811, 812, 813, 814, 815, 1266, 1267, 1268, 1269] (by decide +kernel) (by decide +kernel) w h).1
theorem wsL_law_r36_at : ∀ w ∈ wsL_law_r36, w ∈ lw_tbl := fun w h => (goodIn_r wsL_law_r36 [1270, 1272, 55, 1273, 1274, 1276, 56, 1277, 816, 817, 818, 819, 820, 821, 822, 823, 824, 825, 826, 827, 828, 829, 1278, 1279] (by decide +kernel) (by decide +kernel) w h).1
theorem wsL_law_r37_at : ∀ w ∈ wsL_law_r37, w ∈ lw_tbl := fun w h => (goodIn_r wsL_law_r37 [1280, 1281, 1282, 1283, 1284, 1285, 1286, 1287, 1288, 1289, 1290, 1291, 830, 831, 832, 833, 167, 194, 196, 198, 1292, 1293, 1294, 1295] (by decide +kernel) (by decide +kernel) w h).1
theorem wsL_law_r38_at : ∀ w ∈ wsL_law_r38, w ∈ lw_tbl := fun w h => (goodIn_r wsL_law_r38 [834, 835, 836, 837, 1296, 1297, 1298, 1299, 838, 839, 840, 841, 842, 844, 19, 845, 846, 848, 20, 849, 850, 852, 21, 853] (by decide +kernel) (by decide +kernel) w h).1
theorem wsL_law_r39_at : ∀ w ∈ wsL_law_r39, w ∈ lw_tbl := fun w h => (goodIn_r wsL_law_r39 [1300, 1301, 1302, 1303, 1304, 1306, 57, 1307, 1308, 1310, 58, 1311, 1312, 1314, 59, 1315, 854, 855, 856, 857, 858, 859, 860, 861] (by decide +kernel) (by decide +kernel) w h).1
theorem wsL_law_r40_at : ∀ w ∈ wsL_law_r40, w ∈ lw_tbl := fun w h => (goodIn_r wsL_law_r40 [1316, 1317, 1318, 1319, 862, 863, 864, 865, 1320, 1321, 1322, 1323, 866, 867, 868, 869, 318, 870, 871, 872, 893, 894, 878, 879] (by decide +kernel) (by decide +kernel) w h).1
theorem wsL_law_r41_at : ∀ w ∈ wsL_law_r41, w ∈ lw_tbl := fun w h => (goodIn_r wsL_law_r41 [880, 317, 870, 873, 871, 874, 875, 876, 260, 261, 877, 884, 885, 886, 887, 888, 889, 534, 890, 891, 892, 895, 896, 897] (by decide +kernel) (by decide +kernel) w h).1
theorem wsL_law_r42_at : ∀ w ∈ wsL_law_r42, w ∈ lw_tbl := fun w h => (goodIn_r wsL_law_r42 [915, 916, 916, 895, 898, 896, 899, 900, 901, 902, 903, 545, 904, 905, 906, 907, 908, 909, 910, 914, 917, 918, 919, 941] (by decide +kernel) (by decide +kernel) w h).1
theorem wsL_law_r43_at : ∀ w ∈ wsL_law_r43, w ∈ lw_tbl := fun w h => (goodIn_r wsL_law_r43 [942, 942, 917, 920, 921, 918, 922, 923, 924, 925, 926, 556, 927, 928, 929, 930, 931, 935, 936, 938, 939, 940, 1324, 1325] (by decide +kernel) (by decide +kernel) w h).1
theorem wsL_law_r44_at : ∀ w ∈ wsL_law_r44, w ∈ lw_tbl := fun w h => (goodIn_r wsL_law_r44 [1326, 1327, 997, 998, 999, 1000, 1328, 1330, 60, 1331, 1332, 1333, 1334, 1335, 1337, 61, 1338, 1339, 1341, 62, 1342, 1343, 1345, 63] (by decide +kernel) (by decide +kernel) w h).1
theorem wsL_law_r45_at : ∀ w ∈ wsL_law_r45, w ∈ lw_tbl := fun w h => (goodIn_r wsL_law_r45 [1346, 1347, 1349, 64, 1350, 1351, 1353, 65, 1354, 1355, 1357, 66, 1358, 943, 944, 945, 946, 316, 1359, 1360, 1361, 1362, 947, 948] (by decide +kernel) (by decide +kernel) w h).1
theorem wsL_law_r46_at : ∀ w ∈ wsL_law_r46, w ∈ lw_tbl := fun w h => (goodIn_r wsL_law_r46 [949, 950, 951, 952, 953, 961, 524, 535, 546, 557, 568, 579, 951, 954, 955, 956, 957, 958, 959, 960, 1363, 1364, 1365, 1366] (by decide +kernel) (by decide +kernel) w h).1
theorem wsL_law_r47_at : ∀ w ∈ wsL_law_r47, w ∈ lw_tbl := fun w h => (goodIn_r wsL_law_r47 [962, 963, 964, 965, 330, 1367, 1368, 1369, 1370, 983, 966, 967, 968, 969, 1371, 1372, 1373, 1374, 970, 971, 972, 973, 1375, 1376] (by decide +kernel) (by decide +kernel) w h).1
theorem wsL_law_r48_at : ∀ w ∈ wsL_law_r48, w ∈ lw_tbl := fun w h => (goodIn_r wsL_law_r48 [1377, 1378] (by decide +kernel) (by decide +kernel) w h).1
theorem wsX00_at : ∀ w ∈ wsX00, w ∈ lw_tbl := fun w h => (goodIn_r wsX00 [277, 279, 281, 283] (by decide +kernel) (by decide +kernel) w h).1
theorem wsX10_at : ∀ w ∈ wsX10, w ∈ lw_tbl := fun w h => (goodIn_r wsX10 [294, 296, 298, 300, 302, 304, 306] (by decide +kernel) (by decide +kernel) w h).1
theorem wsX20_at : ∀ w ∈ wsX20, w ∈ lw_tbl := fun w h => (goodIn_r wsX20 [133, 135, 137, 139, 141, 143, 145, 147, 149, 151, 153] (by decide +kernel) (by decide +kernel) w h).1
theorem wsX30_at : ∀ w ∈ wsX30, w ∈ lw_tbl := fun w h => (goodIn_r wsX30 [574, 575, 576, 577] (by decide +kernel) (by decide +kernel) w h).1
theorem wsX40_at : ∀ w ∈ wsX40, w ∈ lw_tbl := fun w h => (goodIn_r wsX40 [552, 553, 554, 555] (by decide +kernel) (by decide +kernel) w h).1
theorem wsX50_at : ∀ w ∈ wsX50, w ∈ lw_tbl := fun w h => (goodIn_r wsX50 [530, 531, 532, 533] (by decide +kernel) (by decide +kernel) w h).1
theorem wsX60_at : ∀ w ∈ wsX60, w ∈ lw_tbl := fun w h => (goodIn_r wsX60 [563, 564, 565, 566] (by decide +kernel) (by decide +kernel) w h).1
theorem wsX70_at : ∀ w ∈ wsX70, w ∈ lw_tbl := fun w h => (goodIn_r wsX70 [585, 586, 587, 588] (by decide +kernel) (by decide +kernel) w h).1
theorem wsX80_at : ∀ w ∈ wsX80, w ∈ lw_tbl := fun w h => (goodIn_r wsX80 [319, 321] (by decide +kernel) (by decide +kernel) w h).1
theorem wsX90_at : ∀ w ∈ wsX90, w ∈ lw_tbl := fun w h => (goodIn_r wsX90 [541, 542, 543, 544] (by decide +kernel) (by decide +kernel) w h).1
theorem wsX100_at : ∀ w ∈ wsX100, w ∈ lw_tbl := fun w h => (goodIn_r wsX100 [204, 206, 208, 210, 212, 214, 216, 218, 220, 222, 224, 226, 228, 230, 232, 234, 236, 238, 240] (by decide +kernel) (by decide +kernel) w h).1
theorem wsX110_at : ∀ w ∈ wsX110, w ∈ lw_tbl := fun w h => (goodIn_r wsX110 [331, 333, 335, 337, 339, 341, 343] (by decide +kernel) (by decide +kernel) w h).1
theorem wsX120_at : ∀ w ∈ wsX120, w ∈ lw_tbl := fun w h => (goodIn_r wsX120 [1001, 1003, 1005, 1007, 1009, 1011, 1013, 1015, 1017, 1019, 1021, 1023, 1025, 1027, 1029, 1031, 1033, 1035, 1037, 1039, 1041, 1043] (by decide +kernel) (by decide +kernel) w h).1
theorem wsL_law_ra : ∀ w ∈ ((wsL_law_r1 ++ (wsL_law_r2 ++ (wsL_law_r3 ++ (wsL_law_r4 ++ (wsL_law_r5 ++ (wsL_law_r6 ++ (wsL_law_r7 ++ (wsL_law_r8 ++ (wsL_law_r9 ++ (wsL_law_r10 ++ (wsL_law_r11 ++ (wsL_law_r12 ++ (wsL_law_r13 ++ (wsL_law_r14 ++ (wsL_law_r15 ++ (wsL_law_r16 ++ (wsL_law_r17 ++ (wsL_law_r18 ++ (wsL_law_r19 ++ (wsL_law_r20 ++ (wsL_law_r21 ++ (wsL_law_r22 ++ (wsL_law_r23 ++ (wsL_law_r24 ++ (wsL_law_r25 ++ (wsL_law_r26 ++ (wsL_law_r27 ++ (wsL_law_r28 ++ (wsL_law_r29 ++ (wsL_law_r30 ++ (wsL_law_r31 ++ (wsL_law_r32 ++ (wsL_law_r33 ++ (wsL_law_r34 ++ (wsL_law_r35 ++ (wsL_law_r36 ++ (wsL_law_r37 ++ (wsL_law_r38 ++ (wsL_law_r39 ++ (wsL_law_r40 ++ (wsL_law_r41 ++ (wsL_law_r42 ++ (wsL_law_r43 ++ (wsL_law_r44 ++ (wsL_law_r45 ++ (wsL_law_r46 ++ (wsL_law_r47 ++ wsL_law_r48)))))))))))))))))))))))))))))))))))))))))))))))), w ∈ lw_tbl := fun w h => (List.mem_append.mp h).elim (fun h => wsL_law_r1_at w h) (fun h => (List.mem_append.mp h).elim (fun h => wsL_law_r2_at w h) (fun h => (List.mem_append.mp h).elim (fun h => wsL_law_r3_at w h) (fun h => (List.mem_append.mp h).elim (fun h => wsL_law_r4_at w h) (fun h => (List.mem_append.mp h).elim (fun h => wsL_law_r5_at w h) (fun h => (List.mem_append.mp h).elim (fun h => wsL_law_r6_at w h) (fun h => (List.mem_append.mp h).elim (fun h => wsL_law_r7_at w h) (fun h => (List.mem_append.mp h).elim (fun h => wsL_law_r8_at w h) (fun h => (List.mem_append.mp h).elim (fun h => wsL_law_r9_at w h) (fun h => (List.mem_append.mp h).elim (fun h => wsL_law_r10_at w h) (fun h => (List.mem_append.mp h).elim (fun h => wsL_law_r11_at w h) (fun h => (List.mem_append.mp h).elim (fun h => wsL_law_r12_at w h) (fun h => (List.mem_append.mp h).elim (fun h => wsL_law_r13_at w h) (fun h => (List.mem_append.mp h).elim (fun h => wsL_law_r14_at w h) (fun h => (List.mem_append.mp h).elim (fun h => wsL_law_r15_at w h) (fun h => (List.mem_append.mp h).elim (fun h => wsL_law_r16_at w h) (fun h => (List.mem_append.mp h).elim (fun h => wsL_law_r17_at w h) (fun h => (List.mem_append.mp h).elim (fun h => wsL_law_r18_at w h) (fun h => (List.mem_append.mp h).elim (fun h => wsL_law_r19_at w h) (fun h => (List.mem_append.mp h).elim (fun h => wsL_law_r20_at w h) (fun h => (List.mem_append.mp h).elim (fun h => wsL_law_r21_at w h) (fun h => (List.mem_append.mp h).elim (fun h => wsL_law_r22_at w h) (fun h => (List.mem_append.mp h).elim (fun h => wsL_law_r23_at w h) (fun h => (List.mem_append.mp h).elim (fun h => wsL_law_r24_at w h) (fun h => (List.mem_append.mp h).elim (fun h => wsL_law_r25_at w h) (fun h => (List.mem_append.mp h).elim (fun h => wsL_law_r26_at w h) (fun h => (List.mem_append.mp h).elim (fun h => wsL_law_r27_at w h) (fun h => (List.mem_append.mp h).elim (fun h => wsL_law_r28_at w h) (fun h => (List.mem_append.mp h).elim (fun h => wsL_law_r29_at w h) (fun h => (List.mem_append.mp h).elim (fun h => wsL_law_r30_at w h) (fun h => (List.mem_append.mp h).elim (fun h => wsL_law_r31_at w h) (fun h => (List.mem_append.mp h).elim (fun h => wsL_law_r32_at w h) (fun h => (List.mem_append.mp h).elim (fun h => wsL_law_r33_at w h) (fun h => (List.mem_append.mp h).elim (fun h => wsL_law_r34_at w h) (fun h => (List.mem_append.mp h).elim (fun h => wsL_law_r35_at w h) (fun h => (List.mem_append.mp h).elim (fun h => wsL_law_r36_at w h) (fun h => (List.mem_append.mp h).elim (fun h => wsL_law_r37_at w h) (fun h => (List.mem_append.mp h).elim (fun h => wsL_law_r38_at w h) (fun h => (List.mem_append.mp h).elim (fun h => wsL_law_r39_at w h) (fun h => (List.mem_append.mp h).elim (fun h => wsL_law_r40_at w h) (fun h => (List.mem_append.mp h).elim (fun h => wsL_law_r41_at w h) (fun h => (List.mem_append.mp h).elim (fun h => wsL_law_r42_at w h) (fun h => (List.mem_append.mp h).elim (fun h => wsL_law_r43_at w h) (fun h => (List.mem_append.mp h).elim (fun h => wsL_law_r44_at w h) (fun h => (List.mem_append.mp h).elim (fun h => wsL_law_r45_at w h) (fun h => (List.mem_append.mp h).elim (fun h => wsL_law_r46_at w h) (fun h => (List.mem_append.mp h).elim (fun h => wsL_law_r47_at w h) (fun h => wsL_law_r48_at w h)))))))))))))))))))))))))))))))))))))))))))))))
theorem wsL_law_in : ∀ w ∈ wsL_law, w ∈ lw_tbl := fun w h => (List.mem_append.mp h).elim (fun h => (List.mem_append.mp h).elim (fun h => (List.mem_append.mp h).elim (fun h => (List.mem_append.mp h).elim (fun h => (List.mem_append.mp h).elim (fun h => (List.mem_append.mp h).elim (fun h => (List.mem_append.mp h).elim (fun h => (List.mem_append.mp h).elim (fun h => (List.mem_append.mp h).elim (fun h => (List.mem_append.mp h).elim (fun h => (List.mem_append.mp h).elim (fun h => (List.mem_append.mp h).elim (fun h => (List.mem_append.mp h).elim (fun h => (List.mem_append.mp h).elim (fun h => wsL_law_ra w h) (fun h => wsX110_at w h)) (fun h => wsX120_at w h)) (fun h => wsX100_at w h)) (fun h => wsX10_at w h)) (fun h => wsX80_at w h)) (fun h => wsX20_at w h)) (fun h => wsX00_at w h)) (fun h => wsX30_at w h)) (fun h => wsX40_at w h)) (fun h => wsX50_at w h)) (fun h => wsX60_at w h)) (fun h => wsX70_at w h)) (fun h => wsX90_at w h)) (fun h => absurd h List.not_mem_nil)
theorem inlX0 : ∀ w ∈ wsX00, w ∈ wsL_law := fun _ h => List.mem_append_left _ (List.mem_append_left _ (List.mem_append_left _ (List.mem_append_left _ (List.mem_append_left _ (List.mem_append_left _ (List.mem_append_left _ (List.mem_append_right _ h)))))))
theorem inX0 : ∀ w ∈ wsX00, w ∈ lw_tbl := fun w h => wsL_law_in w (inlX0 w h)
theorem inlX1 : ∀ w ∈ wsX10, w ∈ wsL_law := fun _ h => List.mem_append_left _ (List.mem_append_left _ (List.mem_append_left _ (List.mem_append_left _ (List.mem_append_left _ (List.mem_append_left _ (List.mem_append_left _ (List.mem_append_left _ (List.mem_append_left _ (List.mem_append_left _ (List.mem_append_right _ h))))))))))
theorem inX1 : ∀ w ∈ wsX10, w ∈ lw_tbl := fun w h => wsL_law_in w (inlX1 w h)
theorem inlX2 : ∀ w ∈ wsX20, w ∈ wsL_law := fun _ h => List.mem_append_left _ (List.mem_append_left _ (List.mem_append_left _ (List.mem_append_left _ (List.mem_append_left _ (List.mem_append_left _ (List.mem_append_left _ (List.mem_append_left _ (List.mem_append_right _ h))))))))
theorem inX2 : ∀ w ∈ wsX20, w ∈ lw_tbl := fun w h => wsL_law_in w (inlX2 w h)
theorem inlX3 : ∀ w ∈ wsX30, w ∈ wsL_law := fun _ h => List.mem_append_left _ (List.mem_append_left _ (List.mem_append_left _ (List.mem_append_left _ (List.mem_append_left _ (List.mem_append_left _ (List.mem_append_right _ h))))))
theorem inX3 : ∀ w ∈ wsX30, w ∈ lw_tbl := fun w h => wsL_law_in w (inlX3 w h)
theorem inlX4 : ∀ w ∈ wsX40, w ∈ wsL_law := fun _ h => List.mem_append_left _ (List.mem_append_left _ (List.mem_append_left _ (List.mem_append_left _ (List.mem_append_left _ (List.mem_append_right _ h)))))
theorem inX4 : ∀ w ∈ wsX40, w ∈ lw_tbl := fun w h => wsL_law_in w (inlX4 w h)
theorem inlX5 : ∀ w ∈ wsX50, w ∈ wsL_law := fun _ h => List.mem_append_left _ (List.mem_append_left _ (List.mem_append_left _ (List.mem_append_left _ (List.mem_append_right _ h))))
theorem inX5 : ∀ w ∈ wsX50, w ∈ lw_tbl := fun w h => wsL_law_in w (inlX5 w h)
theorem inlX6 : ∀ w ∈ wsX60, w ∈ wsL_law := fun _ h => List.mem_append_left _ (List.mem_append_left _ (List.mem_append_left _ (List.mem_append_right _ h)))
theorem inX6 : ∀ w ∈ wsX60, w ∈ lw_tbl := fun w h => wsL_law_in w (inlX6 w h)
theorem inlX7 : ∀ w ∈ wsX70, w ∈ wsL_law := fun _ h => List.mem_append_left _ (List.mem_append_left _ (List.mem_append_right _ h))
theorem inX7 : ∀ w ∈ wsX70, w ∈ lw_tbl := fun w h => wsL_law_in w (inlX7 w h)
theorem inlX8 : ∀ w ∈ wsX80, w ∈ wsL_law := fun _ h => List.mem_append_left _ (List.mem_append_left _ (List.mem_append_left _ (List.mem_append_left _ (List.mem_append_left _ (List.mem_append_left _ (List.mem_append_left _ (List.mem_append_left _ (List.mem_append_left _ (List.mem_append_right _ h)))))))))
theorem inX8 : ∀ w ∈ wsX80, w ∈ lw_tbl := fun w h => wsL_law_in w (inlX8 w h)
theorem inlX9 : ∀ w ∈ wsX90, w ∈ wsL_law := fun _ h => List.mem_append_left _ (List.mem_append_right _ h)
theorem inX9 : ∀ w ∈ wsX90, w ∈ lw_tbl := fun w h => wsL_law_in w (inlX9 w h)
theorem inlX10 : ∀ w ∈ wsX100, w ∈ wsL_law := fun _ h => List.mem_append_left _ (List.mem_append_left _ (List.mem_append_left _ (List.mem_append_left _ (List.mem_append_left _ (List.mem_append_left _ (List.mem_append_left _ (List.mem_append_left _ (List.mem_append_left _ (List.mem_append_left _ (List.mem_append_left _ (List.mem_append_right _ h)))))))))))
theorem inX10 : ∀ w ∈ wsX100, w ∈ lw_tbl := fun w h => wsL_law_in w (inlX10 w h)
theorem inlX11 : ∀ w ∈ wsX110, w ∈ wsL_law := fun _ h => List.mem_append_left _ (List.mem_append_left _ (List.mem_append_left _ (List.mem_append_left _ (List.mem_append_left _ (List.mem_append_left _ (List.mem_append_left _ (List.mem_append_left _ (List.mem_append_left _ (List.mem_append_left _ (List.mem_append_left _ (List.mem_append_left _ (List.mem_append_left _ (List.mem_append_right _ h)))))))))))))
theorem inX11 : ∀ w ∈ wsX110, w ∈ lw_tbl := fun w h => wsL_law_in w (inlX11 w h)
theorem inlX12 : ∀ w ∈ wsX120, w ∈ wsL_law := fun _ h => List.mem_append_left _ (List.mem_append_left _ (List.mem_append_left _ (List.mem_append_left _ (List.mem_append_left _ (List.mem_append_left _ (List.mem_append_left _ (List.mem_append_left _ (List.mem_append_left _ (List.mem_append_left _ (List.mem_append_left _ (List.mem_append_left _ (List.mem_append_right _ h))))))))))))
theorem inX12 : ∀ w ∈ wsX120, w ∈ lw_tbl := fun w h => wsL_law_in w (inlX12 w h)
theorem inJ11 : ∀ w ∈ wsJ110, w ∈ lw_tbl := by decide +kernel
theorem inJ6 : ∀ w ∈ wsJ60, w ∈ lw_tbl := by decide +kernel
theorem inJ9 : ∀ w ∈ wsJ90, w ∈ lw_tbl := by decide +kernel
theorem inJ0 : ∀ w ∈ wsJ00, w ∈ lw_tbl := by decide +kernel
theorem inJ1 : ∀ w ∈ wsJ10, w ∈ lw_tbl := by decide +kernel
theorem inJ2 : ∀ w ∈ wsJ20, w ∈ lw_tbl := by decide +kernel
theorem inJ10 : ∀ w ∈ wsJ100, w ∈ lw_tbl := by decide +kernel
theorem inJ3 : ∀ w ∈ wsJ30, w ∈ lw_tbl := by decide +kernel
theorem dX0_init_0 : decode cX0_init 0 = .ok (.aload_n 0, 1) := by decide +kernel
theorem dX0_init_1 : decode cX0_init 1 = .ok (.invokespecial 1, 3) := by decide +kernel
theorem dX0_init_4 : decode cX0_init 4 = .ok (.aload_n 0, 1) := by decide +kernel
theorem dX0_init_5 : decode cX0_init 5 = .ok (.iload_n 1, 1) := by decide +kernel
theorem dX0_init_6 : decode cX0_init 6 = .ok (.putfield 7, 3) := by decide +kernel
theorem dX0_init_9 : decode cX0_init 9 = .ok (.aload_n 0, 1) := by decide +kernel
theorem dX0_init_10 : decode cX0_init 10 = .ok (.iload_n 2, 1) := by decide +kernel
theorem dX0_init_11 : decode cX0_init 11 = .ok (.putfield 13, 3) := by decide +kernel
theorem dX0_init_14 : decode cX0_init 14 = .ok (.aload_n 0, 1) := by decide +kernel
theorem dX0_init_15 : decode cX0_init 15 = .ok (.iload_n 3, 1) := by decide +kernel
theorem dX0_init_16 : decode cX0_init 16 = .ok (.putfield 16, 3) := by decide +kernel
theorem dX0_init_19 : decode cX0_init 19 = .ok (.aload_n 0, 1) := by decide +kernel
theorem dX0_init_20 : decode cX0_init 20 = .ok (.iload 4, 2) := by decide +kernel
theorem dX0_init_22 : decode cX0_init 22 = .ok (.putfield 19, 3) := by decide +kernel
theorem dX0_init_25 : decode cX0_init 25 = .ok (.return_, 1) := by decide +kernel
set_option maxRecDepth 20000 in
theorem ggX0_make_X5_init : GoodIn wsX0_make wsX5_init := goodIn_r _ [24, 25, 26, 21, 27, 28, 29, 30, 31, 32, 33, 34, 80, 81, 82, 83, 72, 73, 74, 75, 64, 65, 66, 67, 56, 57, 58, 59, 68, 69, 70, 71, 76, 77, 78, 79, 60, 61, 62, 63] (by decide +kernel) (by decide +kernel)
set_option maxRecDepth 20000 in
theorem gX0_make_X5_init : GoodIn wsX0_make (wsX5_init) := ggX0_make_X5_init
set_option maxRecDepth 20000 in
theorem ggX0_make_X9_init : GoodIn wsX0_make wsX9_init := goodIn_r _ [37, 38, 26, 21, 27, 28, 29, 30, 31, 32, 33, 34, 80, 81, 82, 83, 72, 73, 74, 75, 64, 65, 66, 67, 56, 57, 58, 59, 68, 69, 70, 71, 76, 77, 78, 79, 60, 61, 62, 63] (by decide +kernel) (by decide +kernel)
set_option maxRecDepth 20000 in
theorem gX0_make_X9_init : GoodIn wsX0_make (wsX9_init) := ggX0_make_X9_init
set_option maxRecDepth 20000 in
theorem ggX0_make_X4_init : GoodIn wsX0_make wsX4_init := goodIn_r _ [41, 42, 26, 21, 27, 28, 29, 30, 31, 32, 33, 34, 80, 81, 82, 83, 72, 73, 74, 75, 64, 65, 66, 67, 56, 57, 58, 59, 68, 69, 70, 71, 76, 77, 78, 79, 60, 61, 62, 63] (by decide +kernel) (by decide +kernel)
set_option maxRecDepth 20000 in
theorem gX0_make_X4_init : GoodIn wsX0_make (wsX4_init) := ggX0_make_X4_init
set_option maxRecDepth 20000 in
theorem ggX0_make_X6_init : GoodIn wsX0_make wsX6_init := goodIn_r _ [45, 46, 23, 3, 24, 25, 26, 21, 27, 28, 29, 30, 31, 32, 33, 34, 80, 81, 82, 83, 72, 73, 74, 75, 64, 65, 66, 67, 56, 57, 58, 59, 68, 69, 70, 71, 76, 77, 78, 79, 60, 61, 62, 63] (by decide +kernel) (by decide +kernel)
set_option maxRecDepth 20000 in
theorem gX0_make_X6_init : GoodIn wsX0_make (wsX6_init) := ggX0_make_X6_init
set_option maxRecDepth 20000 in
theorem ggX0_make_X3_init : GoodIn wsX0_make wsX3_init := goodIn_r _ [49, 50, 36, 6, 37, 38, 26, 21, 27, 28, 29, 30, 31, 32, 33, 34, 80, 81, 82, 83, 72, 73, 74, 75, 64, 65, 66, 67, 56, 57, 58, 59, 68, 69, 70, 71, 76, 77, 78, 79, 60, 61, 62, 63] (by decide +kernel) (by decide +kernel)
set_option maxRecDepth 20000 in
theorem gX0_make_X3_init : GoodIn wsX0_make (wsX3_init) := ggX0_make_X3_init
set_option maxRecDepth 20000 in
theorem ggX0_make_X7_init : GoodIn wsX0_make wsX7_init := goodIn_r _ [53, 54, 40, 9, 41, 42, 26, 21, 27, 28, 29, 30, 31, 32, 33, 34, 80, 81, 82, 83, 72, 73, 74, 75, 64, 65, 66, 67, 56, 57, 58, 59, 68, 69, 70, 71, 76, 77, 78, 79, 60, 61, 62, 63] (by decide +kernel) (by decide +kernel)
set_option maxRecDepth 20000 in
theorem gX0_make_X7_init : GoodIn wsX0_make (wsX7_init) := ggX0_make_X7_init
set_option maxRecDepth 20000 in
theorem ggX0_make_X0_init : GoodIn wsX0_make wsX0_init := goodIn_r _ [27, 28, 29, 30, 31, 32, 33, 34, 80, 81, 82, 83, 72, 73, 74, 75, 64, 65, 66, 67, 56, 57, 58, 59, 68, 69, 70, 71, 76, 77, 78, 79, 60, 61, 62, 63] (by decide +kernel) (by decide +kernel)
set_option maxRecDepth 20000 in
theorem gX0_make_X0_init : GoodIn wsX0_make (wsX0_init) := ggX0_make_X0_init
theorem dX0_make_0 : decode cX0_make 0 = .ok (.iload_n 0, 1) := by decide +kernel
theorem dX0_make_1 : decode cX0_make 1 = .ok (.tableswitch 111 1 6 #[39, 51, 63, 75, 87, 99], 39) := by decide +kernel
theorem dX0_make_40 : decode cX0_make 40 = .ok (.new 22, 3) := by decide +kernel
theorem dX0_make_43 : decode cX0_make 43 = .ok (.dup, 1) := by decide +kernel
theorem dX0_make_44 : decode cX0_make 44 = .ok (.iload_n 0, 1) := by decide +kernel
theorem dX0_make_45 : decode cX0_make 45 = .ok (.iload_n 1, 1) := by decide +kernel
theorem dX0_make_46 : decode cX0_make 46 = .ok (.iload_n 2, 1) := by decide +kernel
theorem dX0_make_47 : decode cX0_make 47 = .ok (.iload_n 3, 1) := by decide +kernel
theorem dX0_make_48 : decode cX0_make 48 = .ok (.invokespecial 24, 3) := by decide +kernel
theorem dX0_make_51 : decode cX0_make 51 = .ok (.areturn, 1) := by decide +kernel
theorem dX0_make_52 : decode cX0_make 52 = .ok (.new 27, 3) := by decide +kernel
theorem dX0_make_55 : decode cX0_make 55 = .ok (.dup, 1) := by decide +kernel
theorem dX0_make_56 : decode cX0_make 56 = .ok (.iload_n 0, 1) := by decide +kernel
theorem dX0_make_57 : decode cX0_make 57 = .ok (.iload_n 1, 1) := by decide +kernel
theorem dX0_make_58 : decode cX0_make 58 = .ok (.iload_n 2, 1) := by decide +kernel
theorem dX0_make_59 : decode cX0_make 59 = .ok (.iload_n 3, 1) := by decide +kernel
theorem dX0_make_60 : decode cX0_make 60 = .ok (.invokespecial 29, 3) := by decide +kernel
theorem dX0_make_63 : decode cX0_make 63 = .ok (.areturn, 1) := by decide +kernel
theorem dX0_make_64 : decode cX0_make 64 = .ok (.new 30, 3) := by decide +kernel
theorem dX0_make_67 : decode cX0_make 67 = .ok (.dup, 1) := by decide +kernel
theorem dX0_make_68 : decode cX0_make 68 = .ok (.iload_n 0, 1) := by decide +kernel
theorem dX0_make_69 : decode cX0_make 69 = .ok (.iload_n 1, 1) := by decide +kernel
theorem dX0_make_70 : decode cX0_make 70 = .ok (.iload_n 2, 1) := by decide +kernel
theorem dX0_make_71 : decode cX0_make 71 = .ok (.iload_n 3, 1) := by decide +kernel
theorem dX0_make_72 : decode cX0_make 72 = .ok (.invokespecial 32, 3) := by decide +kernel
theorem dX0_make_75 : decode cX0_make 75 = .ok (.areturn, 1) := by decide +kernel
theorem dX0_make_76 : decode cX0_make 76 = .ok (.new 33, 3) := by decide +kernel
theorem dX0_make_79 : decode cX0_make 79 = .ok (.dup, 1) := by decide +kernel
theorem dX0_make_80 : decode cX0_make 80 = .ok (.iload_n 0, 1) := by decide +kernel
theorem dX0_make_81 : decode cX0_make 81 = .ok (.iload_n 1, 1) := by decide +kernel
theorem dX0_make_82 : decode cX0_make 82 = .ok (.iload_n 2, 1) := by decide +kernel
theorem dX0_make_83 : decode cX0_make 83 = .ok (.iload_n 3, 1) := by decide +kernel
theorem dX0_make_84 : decode cX0_make 84 = .ok (.invokespecial 35, 3) := by decide +kernel
theorem dX0_make_87 : decode cX0_make 87 = .ok (.areturn, 1) := by decide +kernel
theorem dX0_make_88 : decode cX0_make 88 = .ok (.new 36, 3) := by decide +kernel
theorem dX0_make_91 : decode cX0_make 91 = .ok (.dup, 1) := by decide +kernel
theorem dX0_make_92 : decode cX0_make 92 = .ok (.iload_n 0, 1) := by decide +kernel
theorem dX0_make_93 : decode cX0_make 93 = .ok (.iload_n 1, 1) := by decide +kernel
theorem dX0_make_94 : decode cX0_make 94 = .ok (.iload_n 2, 1) := by decide +kernel
theorem dX0_make_95 : decode cX0_make 95 = .ok (.iload_n 3, 1) := by decide +kernel
theorem dX0_make_96 : decode cX0_make 96 = .ok (.invokespecial 38, 3) := by decide +kernel
theorem dX0_make_99 : decode cX0_make 99 = .ok (.areturn, 1) := by decide +kernel
theorem dX0_make_100 : decode cX0_make 100 = .ok (.new 39, 3) := by decide +kernel
theorem dX0_make_103 : decode cX0_make 103 = .ok (.dup, 1) := by decide +kernel
theorem dX0_make_104 : decode cX0_make 104 = .ok (.iload_n 0, 1) := by decide +kernel
theorem dX0_make_105 : decode cX0_make 105 = .ok (.iload_n 1, 1) := by decide +kernel
theorem dX0_make_106 : decode cX0_make 106 = .ok (.iload_n 2, 1) := by decide +kernel
theorem dX0_make_107 : decode cX0_make 107 = .ok (.iload_n 3, 1) := by decide +kernel
theorem dX0_make_108 : decode cX0_make 108 = .ok (.invokespecial 41, 3) := by decide +kernel
theorem dX0_make_111 : decode cX0_make 111 = .ok (.areturn, 1) := by decide +kernel
theorem dX0_make_112 : decode cX0_make 112 = .ok (.new 8, 3) := by decide +kernel
theorem dX0_make_115 : decode cX0_make 115 = .ok (.dup, 1) := by decide +kernel
theorem dX0_make_116 : decode cX0_make 116 = .ok (.iload_n 0, 1) := by decide +kernel
theorem dX0_make_117 : decode cX0_make 117 = .ok (.iload_n 1, 1) := by decide +kernel
theorem dX0_make_118 : decode cX0_make 118 = .ok (.iload_n 2, 1) := by decide +kernel
theorem dX0_make_119 : decode cX0_make 119 = .ok (.iload_n 3, 1) := by decide +kernel
theorem dX0_make_120 : decode cX0_make 120 = .ok (.invokespecial 42, 3) := by decide +kernel
theorem dX0_make_123 : decode cX0_make 123 = .ok (.areturn, 1) := by decide +kernel
theorem dX0_isOfKind_0 : decode cX0_isOfKind 0 = .ok (.iload_n 1, 1) := by decide +kernel
theorem dX0_isOfKind_1 : decode cX0_isOfKind 1 = .ok (.tableswitch 75 0 6 #[43, 45, 50, 55, 60, 65, 70], 43) := by decide +kernel
theorem dX0_isOfKind_44 : decode cX0_isOfKind 44 = .ok (.iconst 1, 1) := by decide +kernel
theorem dX0_isOfKind_45 : decode cX0_isOfKind 45 = .ok (.ireturn, 1) := by decide +kernel
theorem dX0_isOfKind_46 : decode cX0_isOfKind 46 = .ok (.aload_n 0, 1) := by decide +kernel
theorem dX0_isOfKind_47 : decode cX0_isOfKind 47 = .ok (.instanceof 22, 3) := by decide +kernel
theorem dX0_isOfKind_50 : decode cX0_isOfKind 50 = .ok (.ireturn, 1) := by decide +kernel
theorem dX0_isOfKind_51 : decode cX0_isOfKind 51 = .ok (.aload_n 0, 1) := by decide +kernel
theorem dX0_isOfKind_52 : decode cX0_isOfKind 52 = .ok (.instanceof 27, 3) := by decide +kernel
theorem dX0_isOfKind_55 : decode cX0_isOfKind 55 = .ok (.ireturn, 1) := by decide +kernel
theorem dX0_isOfKind_56 : decode cX0_isOfKind 56 = .ok (.aload_n 0, 1) := by decide +kernel
theorem dX0_isOfKind_57 : decode cX0_isOfKind 57 = .ok (.instanceof 30, 3) := by decide +kernel
theorem dX0_isOfKind_60 : decode cX0_isOfKind 60 = .ok (.ireturn, 1) := by decide +kernel
theorem dX0_isOfKind_61 : decode cX0_isOfKind 61 = .ok (.aload_n 0, 1) := by decide +kernel
theorem dX0_isOfKind_62 : decode cX0_isOfKind 62 = .ok (.instanceof 33, 3) := by decide +kernel
theorem dX0_isOfKind_65 : decode cX0_isOfKind 65 = .ok (.ireturn, 1) := by decide +kernel
theorem dX0_isOfKind_66 : decode cX0_isOfKind 66 = .ok (.aload_n 0, 1) := by decide +kernel
theorem dX0_isOfKind_67 : decode cX0_isOfKind 67 = .ok (.instanceof 36, 3) := by decide +kernel
theorem dX0_isOfKind_70 : decode cX0_isOfKind 70 = .ok (.ireturn, 1) := by decide +kernel
theorem dX0_isOfKind_71 : decode cX0_isOfKind 71 = .ok (.aload_n 0, 1) := by decide +kernel
theorem dX0_isOfKind_72 : decode cX0_isOfKind 72 = .ok (.instanceof 39, 3) := by decide +kernel
theorem dX0_isOfKind_75 : decode cX0_isOfKind 75 = .ok (.ireturn, 1) := by decide +kernel
theorem dX0_isOfKind_76 : decode cX0_isOfKind 76 = .ok (.iconst 0, 1) := by decide +kernel
theorem dX0_isOfKind_77 : decode cX0_isOfKind 77 = .ok (.ireturn, 1) := by decide +kernel
theorem dX0_seen_0 : decode cX0_seen 0 = .ok (.iload_n 1, 1) := by decide +kernel
theorem dX0_seen_1 : decode cX0_seen 1 = .ok (.ireturn, 1) := by decide +kernel
theorem dX0_favour_0 : decode cX0_favour 0 = .ok (.iconst 0, 1) := by decide +kernel
theorem dX0_favour_1 : decode cX0_favour 1 = .ok (.ireturn, 1) := by decide +kernel
theorem dX0_lineUp_0 : decode cX0_lineUp 0 = .ok (.return_, 1) := by decide +kernel
set_option maxRecDepth 20000 in
theorem ggX0_works_X8_begin : GoodIn wsX0_works wsX8_begin := goodIn_r _ [6, 7, 8, 37, 38] (by decide +kernel) (by decide +kernel)
set_option maxRecDepth 20000 in
theorem gX0_works_X8_begin : GoodIn wsX0_works (wsV RX0 43 RX8 yX8_begin wsX8_begin) := goodIn_app (goodIn_of _ (by decide +kernel)) ggX0_works_X8_begin
theorem dX0_works_0 : decode cX0_works 0 = .ok (.aload_n 2, 1) := by decide +kernel
theorem dX0_works_1 : decode cX0_works 1 = .ok (.iconst 1, 1) := by decide +kernel
theorem dX0_works_2 : decode cX0_works 2 = .ok (.invokevirtual 43, 3) := by decide +kernel
theorem dX0_works_5 : decode cX0_works 5 = .ok (.iload_n 1, 1) := by decide +kernel
theorem dX0_works_6 : decode cX0_works 6 = .ok (.aload_n 0, 1) := by decide +kernel
theorem dX0_works_7 : decode cX0_works 7 = .ok (.getfield 13, 3) := by decide +kernel
theorem dX0_works_10 : decode cX0_works 10 = .ok (.iadd, 1) := by decide +kernel
theorem dX0_works_11 : decode cX0_works 11 = .ok (.ireturn, 1) := by decide +kernel
set_option maxRecDepth 20000 in
theorem ggX0_grades_X8_begin : GoodIn wsX0_grades wsX8_begin := goodIn_r _ [6, 7, 8, 64, 65] (by decide +kernel) (by decide +kernel)
set_option maxRecDepth 20000 in
theorem gX0_grades_X8_begin : GoodIn wsX0_grades (wsV RX0 43 RX8 yX8_begin wsX8_begin) := goodIn_app (goodIn_of _ (by decide +kernel)) ggX0_grades_X8_begin
set_option maxRecDepth 20000 in
theorem ggX0_grades_X0_works : GoodIn wsX0_grades wsX0_works := goodIn_r _ [13, 14, 2, 3, 4, 5, 6, 7, 8, 36, 37, 38, 39, 40, 41, 42, 43, 44, 45, 46, 47, 48, 49, 50, 51, 52, 53, 54, 55, 56, 57, 58, 59, 60, 61, 62, 63, 64, 65] (by decide +kernel) (by decide +kernel)
set_option maxRecDepth 20000 in
theorem gX0_grades_X0_works : GoodIn wsX0_grades (wsV RX0 49 RX0 yX0_works wsX0_works) := goodIn_app (goodIn_of _ (by decide +kernel)) ggX0_grades_X0_works
set_option maxRecDepth 20000 in
theorem ggX0_grades_X3_works : GoodIn wsX0_grades wsX3_works := goodIn_r _ [21, 22, 23, 24, 3, 4, 5, 6, 7, 8, 36, 37, 38, 39, 40, 41, 42, 43, 44, 45, 46, 47, 48, 49, 50, 51, 52, 53, 54, 55, 56, 57, 58, 59, 60, 61, 62, 63, 64, 65] (by decide +kernel) (by decide +kernel)
set_option maxRecDepth 20000 in
theorem gX0_grades_X3_works_u49X3 : GoodIn wsX0_grades (va_wsO RX0 49 RX3 "ChiefGrades$Chief" ⟨"ChiefGrades$Chief", "works", "(ILChiefGrades$Trace;)I"⟩ yX3_works wsX3_works) := goodIn_app (goodIn_of _ (by decide +kernel)) ggX0_grades_X3_works
set_option maxRecDepth 20000 in
theorem gX0_grades_X0_works_u49X4 : GoodIn wsX0_grades (va_wsU RX0 49 RX4 "ChiefGrades$Chief" ⟨"ChiefGrades$Chief", "works", "(ILChiefGrades$Trace;)I"⟩ yX0_works wsX0_works) := goodIn_app (goodIn_of _ (by decide +kernel)) ggX0_grades_X0_works
set_option maxRecDepth 20000 in
theorem ggX0_grades_X5_works : GoodIn wsX0_grades wsX5_works := goodIn_r _ [29, 30, 3, 4, 5, 6, 7, 8, 31, 16, 32, 10, 12, 13, 14, 2, 64, 65, 36, 37, 38, 39, 40, 41, 42, 43, 44, 45, 46, 47, 48, 49, 50, 51, 52, 53, 54, 55, 56, 57, 58, 59, 60, 61, 62, 63] (by decide +kernel) (by decide +kernel)
set_option maxRecDepth 20000 in
theorem gX0_grades_X5_works_u49X5 : GoodIn wsX0_grades (va_wsO RX0 49 RX5 "ChiefGrades$Chief" ⟨"ChiefGrades$Chief", "works", "(ILChiefGrades$Trace;)I"⟩ yX5_works wsX5_works) := goodIn_app (goodIn_of _ (by decide +kernel)) ggX0_grades_X5_works
set_option maxRecDepth 20000 in
theorem gX0_grades_X5_works_u49X6 : GoodIn wsX0_grades (va_wsO RX0 49 RX6 "ChiefGrades$Chief" ⟨"ChiefGrades$Chief", "works", "(ILChiefGrades$Trace;)I"⟩ yX5_works wsX5_works) := goodIn_app (goodIn_of _ (by decide +kernel)) ggX0_grades_X5_works
set_option maxRecDepth 20000 in
theorem gX0_grades_X0_works_u49X7 : GoodIn wsX0_grades (va_wsU RX0 49 RX7 "ChiefGrades$Chief" ⟨"ChiefGrades$Chief", "works", "(ILChiefGrades$Trace;)I"⟩ yX0_works wsX0_works) := goodIn_app (goodIn_of _ (by decide +kernel)) ggX0_grades_X0_works
set_option maxRecDepth 20000 in
theorem gX0_grades_X0_works_u49X9 : GoodIn wsX0_grades (va_wsU RX0 49 RX9 "ChiefGrades$Chief" ⟨"ChiefGrades$Chief", "works", "(ILChiefGrades$Trace;)I"⟩ yX0_works wsX0_works) := goodIn_app (goodIn_of _ (by decide +kernel)) ggX0_grades_X0_works
theorem dX0_grades_0 : decode cX0_grades 0 = .ok (.aload_n 2, 1) := by decide +kernel
theorem dX0_grades_1 : decode cX0_grades 1 = .ok (.iconst 2, 1) := by decide +kernel
theorem dX0_grades_2 : decode cX0_grades 2 = .ok (.invokevirtual 43, 3) := by decide +kernel
theorem dX0_grades_5 : decode cX0_grades 5 = .ok (.aload_n 0, 1) := by decide +kernel
theorem dX0_grades_6 : decode cX0_grades 6 = .ok (.iload_n 1, 1) := by decide +kernel
theorem dX0_grades_7 : decode cX0_grades 7 = .ok (.aload_n 2, 1) := by decide +kernel
theorem dX0_grades_8 : decode cX0_grades 8 = .ok (.invokevirtual 49, 3) := by decide +kernel
theorem dX0_grades_11 : decode cX0_grades 11 = .ok (.aload_n 0, 1) := by decide +kernel
theorem dX0_grades_12 : decode cX0_grades 12 = .ok (.getfield 16, 3) := by decide +kernel
theorem dX0_grades_15 : decode cX0_grades 15 = .ok (.isub, 1) := by decide +kernel
theorem dX0_grades_16 : decode cX0_grades 16 = .ok (.ireturn, 1) := by decide +kernel
set_option maxRecDepth 20000 in
theorem ggX0_levels_X8_begin : GoodIn wsX0_levels wsX8_begin := goodIn_r _ [5, 6, 7, 61, 62] (by decide +kernel) (by decide +kernel)
set_option maxRecDepth 20000 in
theorem gX0_levels_X8_begin : GoodIn wsX0_levels (wsV RX0 43 RX8 yX8_begin wsX8_begin) := goodIn_app (goodIn_of _ (by decide +kernel)) ggX0_levels_X8_begin
set_option maxRecDepth 20000 in
theorem ggX0_levels_X0_grades : GoodIn wsX0_levels wsX0_grades := goodIn_r _ [12, 13, 1, 2, 3, 4, 5, 6, 7, 14, 15, 16, 11, 17, 18, 19, 20, 21, 22, 23, 24, 25, 26, 27, 28, 29, 30, 31, 32, 33, 34, 35, 36, 37, 38, 39, 63, 64, 65, 66, 67, 68, 69, 70, 71, 72, 73, 74, 75, 76, 77, 78, 79, 80, 81, 82, 83, 84, 85, 86, 87, 88, 89, 90, 61, 62] (by decide +kernel) (by decide +kernel)
set_option maxRecDepth 20000 in
theorem gX0_levels_X0_grades : GoodIn wsX0_levels (wsV RX0 53 RX0 yX0_grades wsX0_grades) := goodIn_app (goodIn_of _ (by decide +kernel)) ggX0_levels_X0_grades
set_option maxRecDepth 20000 in
theorem ggX0_levels_X9_grades : GoodIn wsX0_levels wsX9_grades := goodIn_r _ [46, 47, 2, 3, 4, 5, 6, 7, 48, 41, 49, 9, 11, 12, 13, 1, 14, 15, 16, 17, 18, 19, 20, 21, 22, 23, 24, 25, 26, 27, 28, 29, 30, 31, 32, 33, 34, 35, 36, 37, 38, 39, 61, 62, 63, 64, 65, 66, 67, 68, 69, 70, 71, 72, 73, 74, 75, 76, 77, 78, 79, 80, 81, 82, 83, 84, 85, 86, 87, 88, 89, 90] (by decide +kernel) (by decide +kernel)
set_option maxRecDepth 20000 in
theorem gX0_levels_X9_grades_u53X3 : GoodIn wsX0_levels (va_wsO RX0 53 RX3 "ChiefGrades$Chief" ⟨"ChiefGrades$Chief", "grades", "(ILChiefGrades$Trace;)I"⟩ yX9_grades wsX9_grades) := goodIn_app (goodIn_of _ (by decide +kernel)) ggX0_levels_X9_grades
set_option maxRecDepth 20000 in
theorem gX0_levels_X0_grades_u53X4 : GoodIn wsX0_levels (va_wsU RX0 53 RX4 "ChiefGrades$Chief" ⟨"ChiefGrades$Chief", "grades", "(ILChiefGrades$Trace;)I"⟩ yX0_grades wsX0_grades) := goodIn_app (goodIn_of _ (by decide +kernel)) ggX0_levels_X0_grades
set_option maxRecDepth 20000 in
theorem gX0_levels_X0_grades_u53X5 : GoodIn wsX0_levels (va_wsU RX0 53 RX5 "ChiefGrades$Chief" ⟨"ChiefGrades$Chief", "grades", "(ILChiefGrades$Trace;)I"⟩ yX0_grades wsX0_grades) := goodIn_app (goodIn_of _ (by decide +kernel)) ggX0_levels_X0_grades
set_option maxRecDepth 20000 in
theorem gX0_levels_X0_grades_u53X6 : GoodIn wsX0_levels (va_wsU RX0 53 RX6 "ChiefGrades$Chief" ⟨"ChiefGrades$Chief", "grades", "(ILChiefGrades$Trace;)I"⟩ yX0_grades wsX0_grades) := goodIn_app (goodIn_of _ (by decide +kernel)) ggX0_levels_X0_grades
set_option maxRecDepth 20000 in
theorem ggX0_levels_X7_grades : GoodIn wsX0_levels wsX7_grades := goodIn_r _ [56, 57, 58, 59, 2, 3, 4, 5, 6, 7, 63, 64, 65, 66, 67, 68, 69, 70, 71, 72, 73, 74, 75, 76, 77, 78, 79, 80, 81, 82, 83, 84, 85, 86, 87, 88, 89, 90, 61, 62] (by decide +kernel) (by decide +kernel)
set_option maxRecDepth 20000 in
theorem gX0_levels_X7_grades_u53X7 : GoodIn wsX0_levels (va_wsO RX0 53 RX7 "ChiefGrades$Chief" ⟨"ChiefGrades$Chief", "grades", "(ILChiefGrades$Trace;)I"⟩ yX7_grades wsX7_grades) := goodIn_app (goodIn_of _ (by decide +kernel)) ggX0_levels_X7_grades
set_option maxRecDepth 20000 in
theorem gX0_levels_X9_grades_u53X9 : GoodIn wsX0_levels (va_wsO RX0 53 RX9 "ChiefGrades$Chief" ⟨"ChiefGrades$Chief", "grades", "(ILChiefGrades$Trace;)I"⟩ yX9_grades wsX9_grades) := goodIn_app (goodIn_of _ (by decide +kernel)) ggX0_levels_X9_grades
theorem dX0_levels_0 : decode cX0_levels 0 = .ok (.aload_n 2, 1) := by decide +kernel
theorem dX0_levels_1 : decode cX0_levels 1 = .ok (.iconst 3, 1) := by decide +kernel
theorem dX0_levels_2 : decode cX0_levels 2 = .ok (.invokevirtual 43, 3) := by decide +kernel
theorem dX0_levels_5 : decode cX0_levels 5 = .ok (.aload_n 0, 1) := by decide +kernel
theorem dX0_levels_6 : decode cX0_levels 6 = .ok (.iload_n 1, 1) := by decide +kernel
theorem dX0_levels_7 : decode cX0_levels 7 = .ok (.aload_n 2, 1) := by decide +kernel
theorem dX0_levels_8 : decode cX0_levels 8 = .ok (.invokevirtual 53, 3) := by decide +kernel
theorem dX0_levels_11 : decode cX0_levels 11 = .ok (.iconst 2, 1) := by decide +kernel
theorem dX0_levels_12 : decode cX0_levels 12 = .ok (.imul, 1) := by decide +kernel
theorem dX0_levels_13 : decode cX0_levels 13 = .ok (.ireturn, 1) := by decide +kernel
set_option maxRecDepth 20000 in
theorem ggX1_init_X0_init : GoodIn wsX1_init wsX0_init := goodIn_r _ [16, 17, 2, 3, 18, 19, 20, 21, 29, 30, 31, 32, 33, 34, 35, 36, 37, 38, 39, 40, 41, 42, 43, 44, 45, 46, 47, 48, 49, 50, 51, 52, 53, 54, 55, 56] (by decide +kernel) (by decide +kernel)
set_option maxRecDepth 20000 in
theorem gX1_init_X0_init : GoodIn wsX1_init (wsX0_init) := ggX1_init_X0_init
theorem dX1_init_0 : decode cX1_init 0 = .ok (.aload_n 0, 1) := by decide +kernel
theorem dX1_init_1 : decode cX1_init 1 = .ok (.invokespecial 3, 3) := by decide +kernel
theorem dX1_init_4 : decode cX1_init 4 = .ok (.aload_n 0, 1) := by decide +kernel
theorem dX1_init_5 : decode cX1_init 5 = .ok (.bipush 10, 2) := by decide +kernel
theorem dX1_init_7 : decode cX1_init 7 = .ok (.newarray .int, 2) := by decide +kernel
theorem dX1_init_9 : decode cX1_init 9 = .ok (.putfield 9, 3) := by decide +kernel
theorem dX1_init_12 : decode cX1_init 12 = .ok (.aload_n 0, 1) := by decide +kernel
theorem dX1_init_13 : decode cX1_init 13 = .ok (.bipush 10, 2) := by decide +kernel
theorem dX1_init_15 : decode cX1_init 15 = .ok (.newarray .int, 2) := by decide +kernel
theorem dX1_init_17 : decode cX1_init 17 = .ok (.putfield 15, 3) := by decide +kernel
theorem dX1_init_20 : decode cX1_init 20 = .ok (.aload_n 0, 1) := by decide +kernel
theorem dX1_init_21 : decode cX1_init 21 = .ok (.bipush 10, 2) := by decide +kernel
theorem dX1_init_23 : decode cX1_init 23 = .ok (.newarray .int, 2) := by decide +kernel
theorem dX1_init_25 : decode cX1_init 25 = .ok (.putfield 18, 3) := by decide +kernel
theorem dX1_init_28 : decode cX1_init 28 = .ok (.aload_n 0, 1) := by decide +kernel
theorem dX1_init_29 : decode cX1_init 29 = .ok (.bipush 10, 2) := by decide +kernel
theorem dX1_init_31 : decode cX1_init 31 = .ok (.newarray .int, 2) := by decide +kernel
theorem dX1_init_33 : decode cX1_init 33 = .ok (.putfield 21, 3) := by decide +kernel
theorem dX1_init_36 : decode cX1_init 36 = .ok (.aload_n 0, 1) := by decide +kernel
theorem dX1_init_37 : decode cX1_init 37 = .ok (.bipush 6, 2) := by decide +kernel
theorem dX1_init_39 : decode cX1_init 39 = .ok (.newarray .int, 2) := by decide +kernel
theorem dX1_init_41 : decode cX1_init 41 = .ok (.putfield 24, 3) := by decide +kernel
theorem dX1_init_44 : decode cX1_init 44 = .ok (.aload_n 0, 1) := by decide +kernel
theorem dX1_init_45 : decode cX1_init 45 = .ok (.new 27, 3) := by decide +kernel
theorem dX1_init_48 : decode cX1_init 48 = .ok (.dup, 1) := by decide +kernel
theorem dX1_init_49 : decode cX1_init 49 = .ok (.iconst 0, 1) := by decide +kernel
theorem dX1_init_50 : decode cX1_init 50 = .ok (.iconst 0, 1) := by decide +kernel
theorem dX1_init_51 : decode cX1_init 51 = .ok (.iconst 0, 1) := by decide +kernel
theorem dX1_init_52 : decode cX1_init 52 = .ok (.iconst 0, 1) := by decide +kernel
theorem dX1_init_53 : decode cX1_init 53 = .ok (.invokespecial 29, 3) := by decide +kernel
theorem dX1_init_56 : decode cX1_init 56 = .ok (.putfield 32, 3) := by decide +kernel
theorem dX1_init_59 : decode cX1_init 59 = .ok (.return_, 1) := by decide +kernel
set_option maxRecDepth 20000 in
theorem ggX1_markBy_X10_hasWorker : GoodIn wsX1_markBy wsX10_hasWorker := goodIn_r _ [13, 14, 125, 126, 127, 128, 129, 130, 131, 132, 133, 134, 135, 136, 137, 138, 139, 140, 141, 142, 143] (by decide +kernel) (by decide +kernel)
set_option maxRecDepth 20000 in
theorem gX1_markBy_X10_hasWorker : GoodIn wsX1_markBy (wsV RX1 36 RX10 yX10_hasWorker wsX10_hasWorker) := goodIn_app (goodIn_of _ (by decide +kernel)) ggX1_markBy_X10_hasWorker
set_option maxRecDepth 20000 in
theorem ggX1_markBy_X10_teamBits : GoodIn wsX1_markBy wsX10_teamBits := goodIn_r _ [18, 14, 19, 125, 126, 127, 128, 129, 130, 131, 132, 133, 134, 135, 136, 137, 138, 139, 140, 141, 142, 143] (by decide +kernel) (by decide +kernel)
set_option maxRecDepth 20000 in
theorem gX1_markBy_X10_teamBits : GoodIn wsX1_markBy (wsV RX1 55 RX10 yX10_teamBits wsX10_teamBits) := goodIn_app (goodIn_of _ (by decide +kernel)) ggX1_markBy_X10_teamBits
set_option maxRecDepth 20000 in
theorem ggX1_markBy_J6_bitCount_0f7a4 : GoodIn wsX1_markBy wsJ6_bitCount_0f7a4 := goodIn_r _ [23, 24, 25, 26] (by decide +kernel) (by decide +kernel)
set_option maxRecDepth 20000 in
theorem gX1_markBy_J6_bitCount_0f7a4 : GoodIn wsX1_markBy (va_wsS RX1 59 yJ6_bitCount_0f7a4 wsJ6_bitCount_0f7a4) := goodIn_app (goodIn_of _ (by decide +kernel)) ggX1_markBy_J6_bitCount_0f7a4
set_option maxRecDepth 20000 in
theorem ggX1_markBy_X0_seen : GoodIn wsX1_markBy wsX0_seen := goodIn_r _ [31] (by decide +kernel) (by decide +kernel)
set_option maxRecDepth 20000 in
theorem gX1_markBy_X0_seen : GoodIn wsX1_markBy (wsV RX1 67 RX0 yX0_seen wsX0_seen) := goodIn_app (goodIn_of _ (by decide +kernel)) ggX1_markBy_X0_seen
set_option maxRecDepth 20000 in
theorem gX1_markBy_X0_seen_u67X3 : GoodIn wsX1_markBy (va_wsU RX1 67 RX3 "ChiefGrades$Chief" ⟨"ChiefGrades$Chief", "seen", "(II)I"⟩ yX0_seen wsX0_seen) := goodIn_app (goodIn_of _ (by decide +kernel)) ggX1_markBy_X0_seen
set_option maxRecDepth 20000 in
theorem ggX1_markBy_X4_seen : GoodIn wsX1_markBy wsX4_seen := goodIn_r _ [39, 40, 41, 97, 98, 99, 100, 101, 102, 103, 104, 105, 106, 107, 108, 109, 110, 111, 112, 113, 114, 115, 116, 117, 118, 119, 120, 121, 122, 123, 124] (by decide +kernel) (by decide +kernel)
set_option maxRecDepth 20000 in
theorem gX1_markBy_X4_seen_u67X4 : GoodIn wsX1_markBy (va_wsO RX1 67 RX4 "ChiefGrades$Chief" ⟨"ChiefGrades$Chief", "seen", "(II)I"⟩ yX4_seen wsX4_seen) := goodIn_app (goodIn_of _ (by decide +kernel)) ggX1_markBy_X4_seen
set_option maxRecDepth 20000 in
theorem gX1_markBy_X0_seen_u67X5 : GoodIn wsX1_markBy (va_wsU RX1 67 RX5 "ChiefGrades$Chief" ⟨"ChiefGrades$Chief", "seen", "(II)I"⟩ yX0_seen wsX0_seen) := goodIn_app (goodIn_of _ (by decide +kernel)) ggX1_markBy_X0_seen
set_option maxRecDepth 20000 in
theorem gX1_markBy_X0_seen_u67X6 : GoodIn wsX1_markBy (va_wsU RX1 67 RX6 "ChiefGrades$Chief" ⟨"ChiefGrades$Chief", "seen", "(II)I"⟩ yX0_seen wsX0_seen) := goodIn_app (goodIn_of _ (by decide +kernel)) ggX1_markBy_X0_seen
set_option maxRecDepth 20000 in
theorem gX1_markBy_X4_seen_u67X7 : GoodIn wsX1_markBy (va_wsO RX1 67 RX7 "ChiefGrades$Chief" ⟨"ChiefGrades$Chief", "seen", "(II)I"⟩ yX4_seen wsX4_seen) := goodIn_app (goodIn_of _ (by decide +kernel)) ggX1_markBy_X4_seen
set_option maxRecDepth 20000 in
theorem gX1_markBy_X0_seen_u67X9 : GoodIn wsX1_markBy (va_wsU RX1 67 RX9 "ChiefGrades$Chief" ⟨"ChiefGrades$Chief", "seen", "(II)I"⟩ yX0_seen wsX0_seen) := goodIn_app (goodIn_of _ (by decide +kernel)) ggX1_markBy_X0_seen
set_option maxRecDepth 20000 in
theorem ggX1_markBy_X0_favour : GoodIn wsX1_markBy wsX0_favour := goodIn_r _ [49] (by decide +kernel) (by decide +kernel)
set_option maxRecDepth 20000 in
theorem gX1_markBy_X0_favour : GoodIn wsX1_markBy (wsV RX1 74 RX0 yX0_favour wsX0_favour) := goodIn_app (goodIn_of _ (by decide +kernel)) ggX1_markBy_X0_favour
set_option maxRecDepth 20000 in
theorem gX1_markBy_X0_favour_u74X3 : GoodIn wsX1_markBy (va_wsU RX1 74 RX3 "ChiefGrades$Chief" ⟨"ChiefGrades$Chief", "favour", "(I)I"⟩ yX0_favour wsX0_favour) := goodIn_app (goodIn_of _ (by decide +kernel)) ggX1_markBy_X0_favour
set_option maxRecDepth 20000 in
theorem gX1_markBy_X0_favour_u74X4 : GoodIn wsX1_markBy (va_wsU RX1 74 RX4 "ChiefGrades$Chief" ⟨"ChiefGrades$Chief", "favour", "(I)I"⟩ yX0_favour wsX0_favour) := goodIn_app (goodIn_of _ (by decide +kernel)) ggX1_markBy_X0_favour
set_option maxRecDepth 20000 in
theorem ggX1_markBy_X5_favour : GoodIn wsX1_markBy wsX5_favour := goodIn_r _ [58, 59, 60, 97, 98, 99, 100, 101, 102, 103, 104, 105, 106, 107, 108, 109, 110, 111, 112, 113, 114, 115, 116, 117, 118, 119, 120, 121, 122, 123, 124] (by decide +kernel) (by decide +kernel)
set_option maxRecDepth 20000 in
theorem gX1_markBy_X5_favour_u74X5 : GoodIn wsX1_markBy (va_wsO RX1 74 RX5 "ChiefGrades$Chief" ⟨"ChiefGrades$Chief", "favour", "(I)I"⟩ yX5_favour wsX5_favour) := goodIn_app (goodIn_of _ (by decide +kernel)) ggX1_markBy_X5_favour
set_option maxRecDepth 20000 in
theorem ggX1_markBy_X6_favour : GoodIn wsX1_markBy wsX6_favour := goodIn_r _ [64, 65, 66, 67, 68, 69, 70, 71, 72, 73, 56, 57, 58, 59, 60, 97, 98, 99, 100, 101, 102, 103, 104, 105, 106, 107, 108, 109, 110, 111, 112, 113, 114, 115, 116, 117, 118, 119, 120, 121, 122, 123, 124] (by decide +kernel) (by decide +kernel)
set_option maxRecDepth 20000 in
theorem gX1_markBy_X6_favour_u74X6 : GoodIn wsX1_markBy (va_wsO RX1 74 RX6 "ChiefGrades$Chief" ⟨"ChiefGrades$Chief", "favour", "(I)I"⟩ yX6_favour wsX6_favour) := goodIn_app (goodIn_of _ (by decide +kernel)) ggX1_markBy_X6_favour
set_option maxRecDepth 20000 in
theorem ggX1_markBy_X7_favour : GoodIn wsX1_markBy wsX7_favour := goodIn_r _ [77, 78, 79, 97, 98, 99, 100, 101, 102, 103, 104, 105, 106, 107, 108, 109, 110, 111, 112, 113, 114, 115, 116, 117, 118, 119, 120, 121, 122, 123, 124] (by decide +kernel) (by decide +kernel)
set_option maxRecDepth 20000 in
theorem gX1_markBy_X7_favour_u74X7 : GoodIn wsX1_markBy (va_wsO RX1 74 RX7 "ChiefGrades$Chief" ⟨"ChiefGrades$Chief", "favour", "(I)I"⟩ yX7_favour wsX7_favour) := goodIn_app (goodIn_of _ (by decide +kernel)) ggX1_markBy_X7_favour
set_option maxRecDepth 20000 in
theorem gX1_markBy_X0_favour_u74X9 : GoodIn wsX1_markBy (va_wsU RX1 74 RX9 "ChiefGrades$Chief" ⟨"ChiefGrades$Chief", "favour", "(I)I"⟩ yX0_favour wsX0_favour) := goodIn_app (goodIn_of _ (by decide +kernel)) ggX1_markBy_X0_favour
set_option maxRecDepth 20000 in
theorem ggX1_markBy_X2_raise : GoodIn wsX1_markBy wsX2_raise := goodIn_r _ [85, 86, 87, 88, 89, 144, 145, 146, 147, 148, 149, 150, 151, 152, 153, 154] (by decide +kernel) (by decide +kernel)
set_option maxRecDepth 20000 in
theorem gX1_markBy_X2_raise : GoodIn wsX1_markBy (wsV RX1 81 RX2 yX2_raise wsX2_raise) := goodIn_app (goodIn_of _ (by decide +kernel)) ggX1_markBy_X2_raise
theorem dX1_markBy_0 : decode cX1_markBy 0 = .ok (.aload_n 1, 1) := by decide +kernel
theorem dX1_markBy_1 : decode cX1_markBy 1 = .ok (.iload_n 2, 1) := by decide +kernel
theorem dX1_markBy_2 : decode cX1_markBy 2 = .ok (.invokevirtual 36, 3) := by decide +kernel
theorem dX1_markBy_5 : decode cX1_markBy 5 = .ok (.ifCond .ne 5, 3) := by decide +kernel
theorem dX1_markBy_8 : decode cX1_markBy 8 = .ok (.iconst 0, 1) := by decide +kernel
theorem dX1_markBy_9 : decode cX1_markBy 9 = .ok (.ireturn, 1) := by decide +kernel
theorem dX1_markBy_10 : decode cX1_markBy 10 = .ok (.aload_n 0, 1) := by decide +kernel
theorem dX1_markBy_11 : decode cX1_markBy 11 = .ok (.getfield 24, 3) := by decide +kernel
theorem dX1_markBy_14 : decode cX1_markBy 14 = .ok (.iconst 0, 1) := by decide +kernel
theorem dX1_markBy_15 : decode cX1_markBy 15 = .ok (.iload_n 2, 1) := by decide +kernel
theorem dX1_markBy_16 : decode cX1_markBy 16 = .ok (.iastore, 1) := by decide +kernel
theorem dX1_markBy_17 : decode cX1_markBy 17 = .ok (.aload_n 0, 1) := by decide +kernel
theorem dX1_markBy_18 : decode cX1_markBy 18 = .ok (.getfield 24, 3) := by decide +kernel
theorem dX1_markBy_21 : decode cX1_markBy 21 = .ok (.iconst 1, 1) := by decide +kernel
theorem dX1_markBy_22 : decode cX1_markBy 22 = .ok (.aload_n 3, 1) := by decide +kernel
theorem dX1_markBy_23 : decode cX1_markBy 23 = .ok (.getfield 42, 3) := by decide +kernel
theorem dX1_markBy_26 : decode cX1_markBy 26 = .ok (.iastore, 1) := by decide +kernel
theorem dX1_markBy_27 : decode cX1_markBy 27 = .ok (.aload_n 0, 1) := by decide +kernel
theorem dX1_markBy_28 : decode cX1_markBy 28 = .ok (.getfield 24, 3) := by decide +kernel
theorem dX1_markBy_31 : decode cX1_markBy 31 = .ok (.iconst 2, 1) := by decide +kernel
theorem dX1_markBy_32 : decode cX1_markBy 32 = .ok (.aload_n 3, 1) := by decide +kernel
theorem dX1_markBy_33 : decode cX1_markBy 33 = .ok (.getfield 46, 3) := by decide +kernel
theorem dX1_markBy_36 : decode cX1_markBy 36 = .ok (.iastore, 1) := by decide +kernel
theorem dX1_markBy_37 : decode cX1_markBy 37 = .ok (.aload_n 0, 1) := by decide +kernel
theorem dX1_markBy_38 : decode cX1_markBy 38 = .ok (.getfield 24, 3) := by decide +kernel
theorem dX1_markBy_41 : decode cX1_markBy 41 = .ok (.iconst 3, 1) := by decide +kernel
theorem dX1_markBy_42 : decode cX1_markBy 42 = .ok (.aload_n 1, 1) := by decide +kernel
theorem dX1_markBy_43 : decode cX1_markBy 43 = .ok (.getfield 49, 3) := by decide +kernel
theorem dX1_markBy_46 : decode cX1_markBy 46 = .ok (.iload_n 2, 1) := by decide +kernel
theorem dX1_markBy_47 : decode cX1_markBy 47 = .ok (.iaload, 1) := by decide +kernel
theorem dX1_markBy_48 : decode cX1_markBy 48 = .ok (.bipush 10, 2) := by decide +kernel
theorem dX1_markBy_50 : decode cX1_markBy 50 = .ok (.idiv, 1) := by decide +kernel
theorem dX1_markBy_51 : decode cX1_markBy 51 = .ok (.iastore, 1) := by decide +kernel
theorem dX1_markBy_52 : decode cX1_markBy 52 = .ok (.aload_n 0, 1) := by decide +kernel
theorem dX1_markBy_53 : decode cX1_markBy 53 = .ok (.getfield 24, 3) := by decide +kernel
theorem dX1_markBy_56 : decode cX1_markBy 56 = .ok (.iconst 4, 1) := by decide +kernel
theorem dX1_markBy_57 : decode cX1_markBy 57 = .ok (.aload_n 1, 1) := by decide +kernel
theorem dX1_markBy_58 : decode cX1_markBy 58 = .ok (.getfield 52, 3) := by decide +kernel
theorem dX1_markBy_61 : decode cX1_markBy 61 = .ok (.bipush 10, 2) := by decide +kernel
theorem dX1_markBy_63 : decode cX1_markBy 63 = .ok (.irem, 1) := by decide +kernel
theorem dX1_markBy_64 : decode cX1_markBy 64 = .ok (.iastore, 1) := by decide +kernel
theorem dX1_markBy_65 : decode cX1_markBy 65 = .ok (.aload_n 0, 1) := by decide +kernel
theorem dX1_markBy_66 : decode cX1_markBy 66 = .ok (.getfield 24, 3) := by decide +kernel
theorem dX1_markBy_69 : decode cX1_markBy 69 = .ok (.iconst 5, 1) := by decide +kernel
theorem dX1_markBy_70 : decode cX1_markBy 70 = .ok (.aload_n 1, 1) := by decide +kernel
theorem dX1_markBy_71 : decode cX1_markBy 71 = .ok (.aload_n 3, 1) := by decide +kernel
theorem dX1_markBy_72 : decode cX1_markBy 72 = .ok (.getfield 42, 3) := by decide +kernel
theorem dX1_markBy_75 : decode cX1_markBy 75 = .ok (.invokevirtual 55, 3) := by decide +kernel
theorem dX1_markBy_78 : decode cX1_markBy 78 = .ok (.invokestatic 59, 3) := by decide +kernel
theorem dX1_markBy_81 : decode cX1_markBy 81 = .ok (.iastore, 1) := by decide +kernel
theorem dX1_markBy_82 : decode cX1_markBy 82 = .ok (.aload_n 3, 1) := by decide +kernel
theorem dX1_markBy_83 : decode cX1_markBy 83 = .ok (.aload_n 1, 1) := by decide +kernel
theorem dX1_markBy_84 : decode cX1_markBy 84 = .ok (.getfield 49, 3) := by decide +kernel
theorem dX1_markBy_87 : decode cX1_markBy 87 = .ok (.iload_n 2, 1) := by decide +kernel
theorem dX1_markBy_88 : decode cX1_markBy 88 = .ok (.iaload, 1) := by decide +kernel
theorem dX1_markBy_89 : decode cX1_markBy 89 = .ok (.aload_n 1, 1) := by decide +kernel
theorem dX1_markBy_90 : decode cX1_markBy 90 = .ok (.getfield 64, 3) := by decide +kernel
theorem dX1_markBy_93 : decode cX1_markBy 93 = .ok (.iload_n 2, 1) := by decide +kernel
theorem dX1_markBy_94 : decode cX1_markBy 94 = .ok (.iaload, 1) := by decide +kernel
theorem dX1_markBy_95 : decode cX1_markBy 95 = .ok (.invokevirtual 67, 3) := by decide +kernel
theorem dX1_markBy_98 : decode cX1_markBy 98 = .ok (.aload_n 3, 1) := by decide +kernel
theorem dX1_markBy_99 : decode cX1_markBy 99 = .ok (.aload_n 1, 1) := by decide +kernel
theorem dX1_markBy_100 : decode cX1_markBy 100 = .ok (.getfield 71, 3) := by decide +kernel
theorem dX1_markBy_103 : decode cX1_markBy 103 = .ok (.iload_n 2, 1) := by decide +kernel
theorem dX1_markBy_104 : decode cX1_markBy 104 = .ok (.iaload, 1) := by decide +kernel
theorem dX1_markBy_105 : decode cX1_markBy 105 = .ok (.invokevirtual 74, 3) := by decide +kernel
theorem dX1_markBy_108 : decode cX1_markBy 108 = .ok (.iadd, 1) := by decide +kernel
theorem dX1_markBy_109 : decode cX1_markBy 109 = .ok (.aload_n 1, 1) := by decide +kernel
theorem dX1_markBy_110 : decode cX1_markBy 110 = .ok (.getfield 77, 3) := by decide +kernel
theorem dX1_markBy_113 : decode cX1_markBy 113 = .ok (.aload_n 0, 1) := by decide +kernel
theorem dX1_markBy_114 : decode cX1_markBy 114 = .ok (.getfield 24, 3) := by decide +kernel
theorem dX1_markBy_117 : decode cX1_markBy 117 = .ok (.invokevirtual 81, 3) := by decide +kernel
theorem dX1_markBy_120 : decode cX1_markBy 120 = .ok (.iadd, 1) := by decide +kernel
theorem dX1_markBy_121 : decode cX1_markBy 121 = .ok (.ireturn, 1) := by decide +kernel
set_option maxRecDepth 20000 in
theorem ggX1_gradeAll_X10_chiefAt : GoodIn wsX1_gradeAll wsX10_chiefAt := goodIn_r _ [6, 7, 8, 159, 160, 161, 162, 163, 164, 165, 166, 167, 168, 169, 170, 171, 172, 173, 174, 175, 176, 177] (by decide +kernel) (by decide +kernel)
set_option maxRecDepth 20000 in
theorem gX1_gradeAll_X10_chiefAt : GoodIn wsX1_gradeAll (wsV RX1 90 RX10 yX10_chiefAt wsX10_chiefAt) := goodIn_app (goodIn_of _ (by decide +kernel)) ggX1_gradeAll_X10_chiefAt
set_option maxRecDepth 20000 in
theorem ggX1_gradeAll_X1_gradeTeam : GoodIn wsX1_gradeAll wsX1_gradeTeam := goodIn_r _ [13, 14, 15, 16, 17, 5, 18, 19, 20, 21, 22, 23, 12, 24, 25, 26, 27, 28, 29, 30, 31, 32, 33, 34, 35, 36, 37, 38, 39, 40, 41, 42, 43, 44, 45, 46, 47, 48, 49, 50, 51, 52, 53, 54, 55, 56, 57, 58, 59, 60, 61, 62, 63, 64, 65, 66, 67, 68, 69, 70, 71, 72, 73, 74, 75, 76, 77, 78, 79, 80, 81, 82, 83, 84, 85, 86, 87, 88, 89, 90, 91, 92, 93, 94, 95, 96, 97, 98, 99, 100, 101, 102, 103, 104, 105, 106, 107, 108, 109, 110, 111, 112, 113, 114, 115, 116, 117, 118, 119, 120, 121, 122, 123, 124, 125, 126, 127, 128, 129, 130, 131, 132, 133, 134, 135, 136, 137, 138, 139, 140, 141, 142, 143, 144, 145, 146, 147, 148, 149, 150, 151, 152, 153, 154, 155, 156, 157, 158, 178, 179, 180, 181, 182, 183, 184, 185, 186, 187, 188, 189, 190, 191, 192, 193, 194, 195, 196, 197, 198, 199, 200, 201, 202, 203, 204, 205, 159, 160, 161, 162, 163, 164, 165, 166, 167, 168, 169, 170, 171, 172, 173, 174, 175, 176, 177, 206, 207, 208, 209, 210, 211, 212, 213, 214, 215, 216, 217, 218, 219, 220, 221, 222, 223] (by decide +kernel) (by decide +kernel)
set_option maxRecDepth 20000 in
theorem gX1_gradeAll_X1_gradeTeam : GoodIn wsX1_gradeAll (wsV RX1 94 RX1 yX1_gradeTeam wsX1_gradeTeam) := goodIn_app (goodIn_of _ (by decide +kernel)) ggX1_gradeAll_X1_gradeTeam
theorem dX1_gradeAll_0 : decode cX1_gradeAll 0 = .ok (.iconst 0, 1) := by decide +kernel
theorem dX1_gradeAll_1 : decode cX1_gradeAll 1 = .ok (.istore_n 2, 1) := by decide +kernel
theorem dX1_gradeAll_2 : decode cX1_gradeAll 2 = .ok (.iload_n 2, 1) := by decide +kernel
theorem dX1_gradeAll_3 : decode cX1_gradeAll 3 = .ok (.aload_n 1, 1) := by decide +kernel
theorem dX1_gradeAll_4 : decode cX1_gradeAll 4 = .ok (.getfield 87, 3) := by decide +kernel
theorem dX1_gradeAll_7 : decode cX1_gradeAll 7 = .ok (.if_icmp .ge 26, 3) := by decide +kernel
theorem dX1_gradeAll_10 : decode cX1_gradeAll 10 = .ok (.aload_n 1, 1) := by decide +kernel
theorem dX1_gradeAll_11 : decode cX1_gradeAll 11 = .ok (.iload_n 2, 1) := by decide +kernel
theorem dX1_gradeAll_12 : decode cX1_gradeAll 12 = .ok (.invokevirtual 90, 3) := by decide +kernel
theorem dX1_gradeAll_15 : decode cX1_gradeAll 15 = .ok (.astore_n 3, 1) := by decide +kernel
theorem dX1_gradeAll_16 : decode cX1_gradeAll 16 = .ok (.aload_n 3, 1) := by decide +kernel
theorem dX1_gradeAll_17 : decode cX1_gradeAll 17 = .ok (.ifnull 10, 3) := by decide +kernel
theorem dX1_gradeAll_20 : decode cX1_gradeAll 20 = .ok (.aload_n 0, 1) := by decide +kernel
theorem dX1_gradeAll_21 : decode cX1_gradeAll 21 = .ok (.aload_n 1, 1) := by decide +kernel
theorem dX1_gradeAll_22 : decode cX1_gradeAll 22 = .ok (.aload_n 3, 1) := by decide +kernel
theorem dX1_gradeAll_23 : decode cX1_gradeAll 23 = .ok (.invokevirtual 94, 3) := by decide +kernel
theorem dX1_gradeAll_26 : decode cX1_gradeAll 26 = .ok (.pop, 1) := by decide +kernel
theorem dX1_gradeAll_27 : decode cX1_gradeAll 27 = .ok (.iinc 2 1, 3) := by decide +kernel
theorem dX1_gradeAll_30 : decode cX1_gradeAll 30 = .ok (.goto (-28), 3) := by decide +kernel
theorem dX1_gradeAll_33 : decode cX1_gradeAll 33 = .ok (.return_, 1) := by decide +kernel
set_option maxRecDepth 20000 in
theorem ggX1_gradeHad_X10_hasWorker : GoodIn wsX1_gradeHad wsX10_hasWorker := goodIn_r _ [7, 8, 159, 160, 161, 162, 163, 164, 165, 166, 167, 168, 169, 170, 171, 172, 173, 174, 175, 176, 177] (by decide +kernel) (by decide +kernel)
set_option maxRecDepth 20000 in
theorem gX1_gradeHad_X10_hasWorker : GoodIn wsX1_gradeHad (wsV RX1 36 RX10 yX10_hasWorker wsX10_hasWorker) := goodIn_app (goodIn_of _ (by decide +kernel)) ggX1_gradeHad_X10_hasWorker
set_option maxRecDepth 20000 in
theorem ggX1_gradeHad_X10_chiefAt : GoodIn wsX1_gradeHad wsX10_chiefAt := goodIn_r _ [12, 13, 14, 159, 160, 161, 162, 163, 164, 165, 166, 167, 168, 169, 170, 171, 172, 173, 174, 175, 176, 177] (by decide +kernel) (by decide +kernel)
set_option maxRecDepth 20000 in
theorem gX1_gradeHad_X10_chiefAt : GoodIn wsX1_gradeHad (wsV RX1 90 RX10 yX10_chiefAt wsX10_chiefAt) := goodIn_app (goodIn_of _ (by decide +kernel)) ggX1_gradeHad_X10_chiefAt
set_option maxRecDepth 20000 in
theorem ggX1_gradeHad_X1_gradeTeam : GoodIn wsX1_gradeHad wsX1_gradeTeam := goodIn_r _ [19, 20, 21, 22, 23, 6, 24, 8, 25, 26, 27, 28, 18, 29, 30, 31, 32, 33, 34, 35, 36, 37, 38, 39, 40, 41, 42, 43, 44, 45, 46, 47, 3, 4, 5, 7, 48, 49, 50, 51, 52, 53, 54, 55, 56, 57, 58, 59, 60, 61, 62, 63, 64, 65, 66, 67, 68, 69, 70, 71, 72, 73, 74, 75, 76, 77, 78, 79, 80, 81, 82, 83, 84, 85, 86, 87, 88, 89, 90, 91, 92, 93, 94, 95, 96, 97, 98, 99, 100, 101, 102, 103, 104, 105, 106, 107, 108, 109, 110, 111, 112, 113, 114, 115, 116, 117, 118, 119, 120, 121, 122, 123, 124, 125, 126, 127, 2, 128, 129, 130, 131, 132, 133, 134, 135, 136, 137, 138, 139, 140, 141, 142, 143, 144, 145, 146, 147, 148, 149, 150, 151, 152, 153, 154, 155, 156, 157, 158, 185, 186, 187, 188, 189, 190, 191, 192, 193, 194, 195, 196, 197, 198, 199, 200, 201, 202, 203, 204, 205, 206, 207, 208, 209, 210, 211, 212, 159, 160, 161, 162, 163, 164, 165, 166, 167, 168, 169, 170, 171, 172, 173, 174, 175, 176, 177, 178, 179, 180, 181, 182, 183, 184, 213, 214, 215, 216, 217, 218, 219, 220, 221, 222, 223] (by decide +kernel) (by decide +kernel)
set_option maxRecDepth 20000 in
theorem gX1_gradeHad_X1_gradeTeam : GoodIn wsX1_gradeHad (wsV RX1 94 RX1 yX1_gradeTeam wsX1_gradeTeam) := goodIn_app (goodIn_of _ (by decide +kernel)) ggX1_gradeHad_X1_gradeTeam
theorem dX1_gradeHad_0 : decode cX1_gradeHad 0 = .ok (.aload_n 1, 1) := by decide +kernel
theorem dX1_gradeHad_1 : decode cX1_gradeHad 1 = .ok (.iload_n 2, 1) := by decide +kernel
theorem dX1_gradeHad_2 : decode cX1_gradeHad 2 = .ok (.invokevirtual 36, 3) := by decide +kernel
theorem dX1_gradeHad_5 : decode cX1_gradeHad 5 = .ok (.ifCond .ne 5, 3) := by decide +kernel
theorem dX1_gradeHad_8 : decode cX1_gradeHad 8 = .ok (.iconst 0, 1) := by decide +kernel
theorem dX1_gradeHad_9 : decode cX1_gradeHad 9 = .ok (.ireturn, 1) := by decide +kernel
theorem dX1_gradeHad_10 : decode cX1_gradeHad 10 = .ok (.aload_n 1, 1) := by decide +kernel
theorem dX1_gradeHad_11 : decode cX1_gradeHad 11 = .ok (.aload_n 1, 1) := by decide +kernel
theorem dX1_gradeHad_12 : decode cX1_gradeHad 12 = .ok (.getfield 98, 3) := by decide +kernel
theorem dX1_gradeHad_15 : decode cX1_gradeHad 15 = .ok (.iload_n 2, 1) := by decide +kernel
theorem dX1_gradeHad_16 : decode cX1_gradeHad 16 = .ok (.iaload, 1) := by decide +kernel
theorem dX1_gradeHad_17 : decode cX1_gradeHad 17 = .ok (.invokevirtual 90, 3) := by decide +kernel
theorem dX1_gradeHad_20 : decode cX1_gradeHad 20 = .ok (.astore_n 3, 1) := by decide +kernel
theorem dX1_gradeHad_21 : decode cX1_gradeHad 21 = .ok (.aload_n 3, 1) := by decide +kernel
theorem dX1_gradeHad_22 : decode cX1_gradeHad 22 = .ok (.ifnonnull 5, 3) := by decide +kernel
theorem dX1_gradeHad_25 : decode cX1_gradeHad 25 = .ok (.iconst 0, 1) := by decide +kernel
theorem dX1_gradeHad_26 : decode cX1_gradeHad 26 = .ok (.ireturn, 1) := by decide +kernel
theorem dX1_gradeHad_27 : decode cX1_gradeHad 27 = .ok (.aload_n 0, 1) := by decide +kernel
theorem dX1_gradeHad_28 : decode cX1_gradeHad 28 = .ok (.aload_n 1, 1) := by decide +kernel
theorem dX1_gradeHad_29 : decode cX1_gradeHad 29 = .ok (.aload_n 3, 1) := by decide +kernel
theorem dX1_gradeHad_30 : decode cX1_gradeHad 30 = .ok (.invokevirtual 94, 3) := by decide +kernel
theorem dX1_gradeHad_33 : decode cX1_gradeHad 33 = .ok (.pop, 1) := by decide +kernel
theorem dX1_gradeHad_34 : decode cX1_gradeHad 34 = .ok (.aload_n 0, 1) := by decide +kernel
theorem dX1_gradeHad_35 : decode cX1_gradeHad 35 = .ok (.getfield 9, 3) := by decide +kernel
theorem dX1_gradeHad_38 : decode cX1_gradeHad 38 = .ok (.iload_n 2, 1) := by decide +kernel
theorem dX1_gradeHad_39 : decode cX1_gradeHad 39 = .ok (.iaload, 1) := by decide +kernel
theorem dX1_gradeHad_40 : decode cX1_gradeHad 40 = .ok (.ireturn, 1) := by decide +kernel
set_option maxRecDepth 20000 in
theorem ggX1_gradeTeam_X10_teamBits : GoodIn wsX1_gradeTeam wsX10_teamBits := goodIn_r _ [6, 7, 8, 176, 177, 178, 179, 180, 181, 182, 183, 184, 185, 186, 187, 188, 189, 190, 191, 192, 193, 194] (by decide +kernel) (by decide +kernel)
set_option maxRecDepth 20000 in
theorem gX1_gradeTeam_X10_teamBits : GoodIn wsX1_gradeTeam (wsV RX1 55 RX10 yX10_teamBits wsX10_teamBits) := goodIn_app (goodIn_of _ (by decide +kernel)) ggX1_gradeTeam_X10_teamBits
set_option maxRecDepth 20000 in
theorem ggX1_gradeTeam_X1_gather : GoodIn wsX1_gradeTeam wsX1_gather := goodIn_r _ [13, 14, 15, 195, 196, 197, 198, 199, 200, 201] (by decide +kernel) (by decide +kernel)
set_option maxRecDepth 20000 in
theorem gX1_gradeTeam_X1_gather : GoodIn wsX1_gradeTeam (wsV RX1 101 RX1 yX1_gather wsX1_gather) := goodIn_app (goodIn_of _ (by decide +kernel)) ggX1_gradeTeam_X1_gather
set_option maxRecDepth 20000 in
theorem ggX1_gradeTeam_X1_markTeam : GoodIn wsX1_gradeTeam wsX1_markTeam := goodIn_r _ [19, 14, 20, 15, 21, 22, 23, 12, 24, 25, 1, 26, 27, 28, 29, 30, 31, 32, 33, 34, 5, 35, 7, 2, 3, 4, 6, 8, 36, 37, 38, 39, 40, 41, 42, 43, 44, 45, 46, 47, 48, 49, 50, 51, 52, 53, 54, 55, 56, 57, 58, 59, 60, 61, 62, 63, 64, 65, 66, 67, 68, 69, 70, 71, 72, 73, 74, 75, 76, 77, 78, 79, 80, 81, 82, 83, 84, 85, 86, 87, 88, 89, 90, 91, 92, 93, 94, 95, 96, 97, 98, 99, 100, 101, 102, 103, 104, 105, 195, 196, 197, 198, 199, 200, 201, 148, 149, 150, 151, 152, 153, 154, 155, 156, 157, 158, 159, 160, 161, 162, 163, 164, 165, 166, 167, 168, 169, 170, 171, 172, 173, 174, 175, 176, 177, 178, 179, 180, 181, 182, 183, 184, 185, 186, 187, 188, 189, 190, 191, 192, 193, 194, 202, 203, 204, 205, 206, 207, 208, 209, 210, 211, 212] (by decide +kernel) (by decide +kernel)
set_option maxRecDepth 20000 in
theorem gX1_gradeTeam_X1_markTeam : GoodIn wsX1_gradeTeam (wsV RX1 105 RX1 yX1_markTeam wsX1_markTeam) := goodIn_app (goodIn_of _ (by decide +kernel)) ggX1_gradeTeam_X1_markTeam
set_option maxRecDepth 20000 in
theorem ggX1_gradeTeam_X1_share : GoodIn wsX1_gradeTeam wsX1_share := goodIn_r _ [109, 31, 110, 14, 111, 112, 113, 85, 114, 20, 115, 116, 15, 28, 117, 118, 119, 12, 120, 121, 122, 123, 124, 125, 126, 46, 127, 128, 129, 130, 131, 132, 133, 134, 135, 136, 137, 138, 139, 140, 141, 142, 143, 144, 145, 146, 147, 176, 177, 178, 179, 180, 181, 182, 183, 184, 185, 186, 187, 188, 189, 190, 191, 192, 193, 194, 202, 203, 204, 205, 206, 207, 208, 209, 210, 211, 212, 195, 196, 197, 198, 199, 200, 201, 148, 149, 150, 151, 152, 153, 154, 155, 156, 157, 158, 159, 160, 161, 162, 163, 164, 165, 166, 167, 168, 169, 170, 171, 172, 173, 174, 175] (by decide +kernel) (by decide +kernel)
set_option maxRecDepth 20000 in
theorem gX1_gradeTeam_X1_share : GoodIn wsX1_gradeTeam (wsV RX1 109 RX1 yX1_share wsX1_share) := goodIn_app (goodIn_of _ (by decide +kernel)) ggX1_gradeTeam_X1_share
theorem dX1_gradeTeam_0 : decode cX1_gradeTeam 0 = .ok (.aload_n 0, 1) := by decide +kernel
theorem dX1_gradeTeam_1 : decode cX1_gradeTeam 1 = .ok (.aload_n 1, 1) := by decide +kernel
theorem dX1_gradeTeam_2 : decode cX1_gradeTeam 2 = .ok (.aload_n 2, 1) := by decide +kernel
theorem dX1_gradeTeam_3 : decode cX1_gradeTeam 3 = .ok (.getfield 42, 3) := by decide +kernel
theorem dX1_gradeTeam_6 : decode cX1_gradeTeam 6 = .ok (.invokevirtual 55, 3) := by decide +kernel
theorem dX1_gradeTeam_9 : decode cX1_gradeTeam 9 = .ok (.invokevirtual 101, 3) := by decide +kernel
theorem dX1_gradeTeam_12 : decode cX1_gradeTeam 12 = .ok (.aload_n 0, 1) := by decide +kernel
theorem dX1_gradeTeam_13 : decode cX1_gradeTeam 13 = .ok (.aload_n 1, 1) := by decide +kernel
theorem dX1_gradeTeam_14 : decode cX1_gradeTeam 14 = .ok (.aload_n 2, 1) := by decide +kernel
theorem dX1_gradeTeam_15 : decode cX1_gradeTeam 15 = .ok (.invokevirtual 105, 3) := by decide +kernel
theorem dX1_gradeTeam_18 : decode cX1_gradeTeam 18 = .ok (.aload_n 0, 1) := by decide +kernel
theorem dX1_gradeTeam_19 : decode cX1_gradeTeam 19 = .ok (.aload_n 1, 1) := by decide +kernel
theorem dX1_gradeTeam_20 : decode cX1_gradeTeam 20 = .ok (.aload_n 2, 1) := by decide +kernel
theorem dX1_gradeTeam_21 : decode cX1_gradeTeam 21 = .ok (.invokevirtual 109, 3) := by decide +kernel
theorem dX1_gradeTeam_24 : decode cX1_gradeTeam 24 = .ok (.ireturn, 1) := by decide +kernel
set_option maxRecDepth 20000 in
theorem ggX1_gradeDue_X1_gather : GoodIn wsX1_gradeDue wsX1_gather := goodIn_r _ [11, 2, 4, 77, 78, 79, 80, 81, 82, 83] (by decide +kernel) (by decide +kernel)
set_option maxRecDepth 20000 in
theorem gX1_gradeDue_X1_gather : GoodIn wsX1_gradeDue (wsV RX1 101 RX1 yX1_gather wsX1_gather) := goodIn_app (goodIn_of _ (by decide +kernel)) ggX1_gradeDue_X1_gather
set_option maxRecDepth 20000 in
theorem ggX1_gradeDue_X1_share : GoodIn wsX1_gradeDue wsX1_share := goodIn_r _ [15, 16, 17, 2, 18, 19, 20, 21, 22, 3, 23, 24, 4, 25, 26, 27, 28, 10, 29, 30, 31, 32, 33, 34, 35, 36, 37, 38, 39, 40, 41, 42, 43, 44, 45, 46, 47, 48, 49, 50, 51, 52, 53, 54, 55, 56, 57, 58, 59, 60, 61, 62, 63, 64, 65, 66, 67, 68, 69, 70, 71, 72, 73, 74, 75, 76, 84, 85, 86, 87, 88, 89, 90, 91, 92, 93, 94, 77, 78, 79, 80, 81, 82, 83, 95, 96, 97, 98, 99, 100, 101, 102, 103, 104, 105, 106, 107, 108, 109, 110, 111, 112, 113, 114, 115, 116, 117, 118, 119, 120, 121, 122] (by decide +kernel) (by decide +kernel)
set_option maxRecDepth 20000 in
theorem gX1_gradeDue_X1_share : GoodIn wsX1_gradeDue (wsV RX1 109 RX1 yX1_share wsX1_share) := goodIn_app (goodIn_of _ (by decide +kernel)) ggX1_gradeDue_X1_share
theorem dX1_gradeDue_0 : decode cX1_gradeDue 0 = .ok (.aload_n 0, 1) := by decide +kernel
theorem dX1_gradeDue_1 : decode cX1_gradeDue 1 = .ok (.iconst 1, 1) := by decide +kernel
theorem dX1_gradeDue_2 : decode cX1_gradeDue 2 = .ok (.aload_n 1, 1) := by decide +kernel
theorem dX1_gradeDue_3 : decode cX1_gradeDue 3 = .ok (.getfield 112, 3) := by decide +kernel
theorem dX1_gradeDue_6 : decode cX1_gradeDue 6 = .ok (.ishl, 1) := by decide +kernel
theorem dX1_gradeDue_7 : decode cX1_gradeDue 7 = .ok (.iconst 1, 1) := by decide +kernel
theorem dX1_gradeDue_8 : decode cX1_gradeDue 8 = .ok (.isub, 1) := by decide +kernel
theorem dX1_gradeDue_9 : decode cX1_gradeDue 9 = .ok (.invokevirtual 101, 3) := by decide +kernel
theorem dX1_gradeDue_12 : decode cX1_gradeDue 12 = .ok (.iconst 0, 1) := by decide +kernel
theorem dX1_gradeDue_13 : decode cX1_gradeDue 13 = .ok (.istore_n 2, 1) := by decide +kernel
theorem dX1_gradeDue_14 : decode cX1_gradeDue 14 = .ok (.iload_n 2, 1) := by decide +kernel
theorem dX1_gradeDue_15 : decode cX1_gradeDue 15 = .ok (.aload_n 0, 1) := by decide +kernel
theorem dX1_gradeDue_16 : decode cX1_gradeDue 16 = .ok (.getfield 115, 3) := by decide +kernel
theorem dX1_gradeDue_19 : decode cX1_gradeDue 19 = .ok (.if_icmp .ge 31, 3) := by decide +kernel
theorem dX1_gradeDue_22 : decode cX1_gradeDue 22 = .ok (.aload_n 0, 1) := by decide +kernel
theorem dX1_gradeDue_23 : decode cX1_gradeDue 23 = .ok (.getfield 15, 3) := by decide +kernel
theorem dX1_gradeDue_26 : decode cX1_gradeDue 26 = .ok (.aload_n 0, 1) := by decide +kernel
theorem dX1_gradeDue_27 : decode cX1_gradeDue 27 = .ok (.getfield 18, 3) := by decide +kernel
theorem dX1_gradeDue_30 : decode cX1_gradeDue 30 = .ok (.iload_n 2, 1) := by decide +kernel
theorem dX1_gradeDue_31 : decode cX1_gradeDue 31 = .ok (.iaload, 1) := by decide +kernel
theorem dX1_gradeDue_32 : decode cX1_gradeDue 32 = .ok (.aload_n 1, 1) := by decide +kernel
theorem dX1_gradeDue_33 : decode cX1_gradeDue 33 = .ok (.getfield 49, 3) := by decide +kernel
theorem dX1_gradeDue_36 : decode cX1_gradeDue 36 = .ok (.aload_n 0, 1) := by decide +kernel
theorem dX1_gradeDue_37 : decode cX1_gradeDue 37 = .ok (.getfield 18, 3) := by decide +kernel
theorem dX1_gradeDue_40 : decode cX1_gradeDue 40 = .ok (.iload_n 2, 1) := by decide +kernel
theorem dX1_gradeDue_41 : decode cX1_gradeDue 41 = .ok (.iaload, 1) := by decide +kernel
theorem dX1_gradeDue_42 : decode cX1_gradeDue 42 = .ok (.iaload, 1) := by decide +kernel
theorem dX1_gradeDue_43 : decode cX1_gradeDue 43 = .ok (.iastore, 1) := by decide +kernel
theorem dX1_gradeDue_44 : decode cX1_gradeDue 44 = .ok (.iinc 2 1, 3) := by decide +kernel
theorem dX1_gradeDue_47 : decode cX1_gradeDue 47 = .ok (.goto (-33), 3) := by decide +kernel
theorem dX1_gradeDue_50 : decode cX1_gradeDue 50 = .ok (.aload_n 0, 1) := by decide +kernel
theorem dX1_gradeDue_51 : decode cX1_gradeDue 51 = .ok (.aload_n 1, 1) := by decide +kernel
theorem dX1_gradeDue_52 : decode cX1_gradeDue 52 = .ok (.aload_n 0, 1) := by decide +kernel
theorem dX1_gradeDue_53 : decode cX1_gradeDue 53 = .ok (.getfield 32, 3) := by decide +kernel
theorem dX1_gradeDue_56 : decode cX1_gradeDue 56 = .ok (.invokevirtual 109, 3) := by decide +kernel
theorem dX1_gradeDue_59 : decode cX1_gradeDue 59 = .ok (.pop, 1) := by decide +kernel
theorem dX1_gradeDue_60 : decode cX1_gradeDue 60 = .ok (.return_, 1) := by decide +kernel
set_option maxRecDepth 20000 in
theorem ggX1_gradeLevelled_X10_chiefAt : GoodIn wsX1_gradeLevelled wsX10_chiefAt := goodIn_r _ [10, 11, 12, 160, 161, 162, 163, 164, 165, 166, 167, 168, 169, 170, 171, 172, 173, 174, 175, 176, 177, 178] (by decide +kernel) (by decide +kernel)
set_option maxRecDepth 20000 in
theorem gX1_gradeLevelled_X10_chiefAt : GoodIn wsX1_gradeLevelled (wsV RX1 90 RX10 yX10_chiefAt wsX10_chiefAt) := goodIn_app (goodIn_of _ (by decide +kernel)) ggX1_gradeLevelled_X10_chiefAt
set_option maxRecDepth 20000 in
theorem ggX1_gradeLevelled_X10_teamBits : GoodIn wsX1_gradeLevelled wsX10_teamBits := goodIn_r _ [16, 17, 18, 160, 161, 162, 163, 164, 165, 166, 167, 168, 169, 170, 171, 172, 173, 174, 175, 176, 177, 178] (by decide +kernel) (by decide +kernel)
set_option maxRecDepth 20000 in
theorem gX1_gradeLevelled_X10_teamBits : GoodIn wsX1_gradeLevelled (wsV RX1 55 RX10 yX10_teamBits wsX10_teamBits) := goodIn_app (goodIn_of _ (by decide +kernel)) ggX1_gradeLevelled_X10_teamBits
set_option maxRecDepth 20000 in
theorem ggX1_gradeLevelled_X1_gather : GoodIn wsX1_gradeLevelled wsX1_gather := goodIn_r _ [23, 3, 5, 179, 180, 181, 182, 183, 184, 185] (by decide +kernel) (by decide +kernel)
set_option maxRecDepth 20000 in
theorem gX1_gradeLevelled_X1_gather : GoodIn wsX1_gradeLevelled (wsV RX1 101 RX1 yX1_gather wsX1_gather) := goodIn_app (goodIn_of _ (by decide +kernel)) ggX1_gradeLevelled_X1_gather
set_option maxRecDepth 20000 in
theorem ggX1_gradeLevelled_X1_markTeam : GoodIn wsX1_gradeLevelled wsX1_markTeam := goodIn_r _ [27, 3, 4, 5, 28, 29, 30, 22, 31, 32, 33, 34, 35, 36, 37, 38, 39, 40, 41, 42, 9, 43, 17, 13, 14, 15, 16, 18, 44, 45, 46, 47, 48, 49, 50, 51, 52, 53, 54, 55, 56, 57, 58, 59, 60, 61, 62, 63, 64, 65, 66, 67, 68, 69, 70, 71, 72, 73, 74, 75, 76, 77, 78, 79, 80, 81, 82, 83, 84, 85, 86, 87, 88, 89, 90, 91, 92, 93, 94, 95, 96, 97, 98, 99, 100, 101, 102, 103, 104, 105, 106, 107, 108, 109, 110, 111, 112, 113, 179, 180, 181, 182, 183, 184, 185, 186, 187, 188, 189, 190, 191, 192, 193, 194, 195, 196, 197, 198, 199, 200, 201, 202, 203, 204, 205, 206, 207, 208, 209, 210, 211, 212, 213, 160, 161, 162, 163, 164, 165, 166, 167, 168, 169, 170, 171, 172, 173, 174, 175, 176, 177, 178, 214, 215, 216, 217, 218, 219, 220, 221, 222, 223, 224] (by decide +kernel) (by decide +kernel)
set_option maxRecDepth 20000 in
theorem gX1_gradeLevelled_X1_markTeam : GoodIn wsX1_gradeLevelled (wsV RX1 105 RX1 yX1_markTeam wsX1_markTeam) := goodIn_app (goodIn_of _ (by decide +kernel)) ggX1_gradeLevelled_X1_markTeam
set_option maxRecDepth 20000 in
theorem ggX1_gradeLevelled_X1_meanOfTeam : GoodIn wsX1_gradeLevelled wsX1_meanOfTeam := goodIn_r _ [117, 3, 4, 5, 179, 180, 181, 182, 183, 184, 185] (by decide +kernel) (by decide +kernel)
set_option maxRecDepth 20000 in
theorem gX1_gradeLevelled_X1_meanOfTeam : GoodIn wsX1_gradeLevelled (wsV RX1 118 RX1 yX1_meanOfTeam wsX1_meanOfTeam) := goodIn_app (goodIn_of _ (by decide +kernel)) ggX1_gradeLevelled_X1_meanOfTeam
set_option maxRecDepth 20000 in
theorem ggX1_gradeLevelled_X1_share : GoodIn wsX1_gradeLevelled wsX1_share := goodIn_r _ [121, 39, 122, 3, 123, 124, 125, 93, 126, 4, 127, 128, 5, 36, 129, 130, 131, 22, 132, 133, 134, 135, 136, 137, 138, 54, 139, 140, 141, 142, 143, 144, 145, 146, 147, 148, 149, 150, 151, 152, 153, 154, 155, 156, 157, 158, 159, 160, 161, 162, 163, 164, 165, 166, 167, 168, 169, 170, 171, 172, 173, 174, 175, 176, 177, 178, 214, 215, 216, 217, 218, 219, 220, 221, 222, 223, 224, 179, 180, 181, 182, 183, 184, 185, 186, 187, 188, 189, 190, 191, 192, 193, 194, 195, 196, 197, 198, 199, 200, 201, 202, 203, 204, 205, 206, 207, 208, 209, 210, 211, 212, 213] (by decide +kernel) (by decide +kernel)
set_option maxRecDepth 20000 in
theorem gX1_gradeLevelled_X1_share : GoodIn wsX1_gradeLevelled (wsV RX1 109 RX1 yX1_share wsX1_share) := goodIn_app (goodIn_of _ (by decide +kernel)) ggX1_gradeLevelled_X1_share
theorem dX1_gradeLevelled_0 : decode cX1_gradeLevelled 0 = .ok (.iconst 0, 1) := by decide +kernel
theorem dX1_gradeLevelled_1 : decode cX1_gradeLevelled 1 = .ok (.istore_n 2, 1) := by decide +kernel
theorem dX1_gradeLevelled_2 : decode cX1_gradeLevelled 2 = .ok (.iload_n 2, 1) := by decide +kernel
theorem dX1_gradeLevelled_3 : decode cX1_gradeLevelled 3 = .ok (.aload_n 1, 1) := by decide +kernel
theorem dX1_gradeLevelled_4 : decode cX1_gradeLevelled 4 = .ok (.getfield 87, 3) := by decide +kernel
theorem dX1_gradeLevelled_7 : decode cX1_gradeLevelled 7 = .ok (.if_icmp .ge 37, 3) := by decide +kernel
theorem dX1_gradeLevelled_10 : decode cX1_gradeLevelled 10 = .ok (.aload_n 1, 1) := by decide +kernel
theorem dX1_gradeLevelled_11 : decode cX1_gradeLevelled 11 = .ok (.iload_n 2, 1) := by decide +kernel
theorem dX1_gradeLevelled_12 : decode cX1_gradeLevelled 12 = .ok (.invokevirtual 90, 3) := by decide +kernel
theorem dX1_gradeLevelled_15 : decode cX1_gradeLevelled 15 = .ok (.astore_n 3, 1) := by decide +kernel
theorem dX1_gradeLevelled_16 : decode cX1_gradeLevelled 16 = .ok (.aload_n 3, 1) := by decide +kernel
theorem dX1_gradeLevelled_17 : decode cX1_gradeLevelled 17 = .ok (.ifnonnull 6, 3) := by decide +kernel
theorem dX1_gradeLevelled_20 : decode cX1_gradeLevelled 20 = .ok (.goto 18, 3) := by decide +kernel
theorem dX1_gradeLevelled_23 : decode cX1_gradeLevelled 23 = .ok (.aload_n 0, 1) := by decide +kernel
theorem dX1_gradeLevelled_24 : decode cX1_gradeLevelled 24 = .ok (.aload_n 1, 1) := by decide +kernel
theorem dX1_gradeLevelled_25 : decode cX1_gradeLevelled 25 = .ok (.iload_n 2, 1) := by decide +kernel
theorem dX1_gradeLevelled_26 : decode cX1_gradeLevelled 26 = .ok (.invokevirtual 55, 3) := by decide +kernel
theorem dX1_gradeLevelled_29 : decode cX1_gradeLevelled 29 = .ok (.invokevirtual 101, 3) := by decide +kernel
theorem dX1_gradeLevelled_32 : decode cX1_gradeLevelled 32 = .ok (.aload_n 0, 1) := by decide +kernel
theorem dX1_gradeLevelled_33 : decode cX1_gradeLevelled 33 = .ok (.aload_n 1, 1) := by decide +kernel
theorem dX1_gradeLevelled_34 : decode cX1_gradeLevelled 34 = .ok (.aload_n 3, 1) := by decide +kernel
theorem dX1_gradeLevelled_35 : decode cX1_gradeLevelled 35 = .ok (.invokevirtual 105, 3) := by decide +kernel
theorem dX1_gradeLevelled_38 : decode cX1_gradeLevelled 38 = .ok (.iinc 2 1, 3) := by decide +kernel
theorem dX1_gradeLevelled_41 : decode cX1_gradeLevelled 41 = .ok (.goto (-39), 3) := by decide +kernel
theorem dX1_gradeLevelled_44 : decode cX1_gradeLevelled 44 = .ok (.aload_n 0, 1) := by decide +kernel
theorem dX1_gradeLevelled_45 : decode cX1_gradeLevelled 45 = .ok (.iconst 1, 1) := by decide +kernel
theorem dX1_gradeLevelled_46 : decode cX1_gradeLevelled 46 = .ok (.aload_n 1, 1) := by decide +kernel
theorem dX1_gradeLevelled_47 : decode cX1_gradeLevelled 47 = .ok (.getfield 112, 3) := by decide +kernel
theorem dX1_gradeLevelled_50 : decode cX1_gradeLevelled 50 = .ok (.ishl, 1) := by decide +kernel
theorem dX1_gradeLevelled_51 : decode cX1_gradeLevelled 51 = .ok (.iconst 1, 1) := by decide +kernel
theorem dX1_gradeLevelled_52 : decode cX1_gradeLevelled 52 = .ok (.isub, 1) := by decide +kernel
theorem dX1_gradeLevelled_53 : decode cX1_gradeLevelled 53 = .ok (.invokevirtual 101, 3) := by decide +kernel
theorem dX1_gradeLevelled_56 : decode cX1_gradeLevelled 56 = .ok (.aload_n 0, 1) := by decide +kernel
theorem dX1_gradeLevelled_57 : decode cX1_gradeLevelled 57 = .ok (.invokevirtual 118, 3) := by decide +kernel
theorem dX1_gradeLevelled_60 : decode cX1_gradeLevelled 60 = .ok (.istore_n 2, 1) := by decide +kernel
theorem dX1_gradeLevelled_61 : decode cX1_gradeLevelled 61 = .ok (.iconst 0, 1) := by decide +kernel
theorem dX1_gradeLevelled_62 : decode cX1_gradeLevelled 62 = .ok (.istore_n 3, 1) := by decide +kernel
theorem dX1_gradeLevelled_63 : decode cX1_gradeLevelled 63 = .ok (.iload_n 3, 1) := by decide +kernel
theorem dX1_gradeLevelled_64 : decode cX1_gradeLevelled 64 = .ok (.aload_n 1, 1) := by decide +kernel
theorem dX1_gradeLevelled_65 : decode cX1_gradeLevelled 65 = .ok (.getfield 87, 3) := by decide +kernel
theorem dX1_gradeLevelled_68 : decode cX1_gradeLevelled 68 = .ok (.if_icmp .ge 84, 3) := by decide +kernel
theorem dX1_gradeLevelled_71 : decode cX1_gradeLevelled 71 = .ok (.aload_n 1, 1) := by decide +kernel
theorem dX1_gradeLevelled_72 : decode cX1_gradeLevelled 72 = .ok (.iload_n 3, 1) := by decide +kernel
theorem dX1_gradeLevelled_73 : decode cX1_gradeLevelled 73 = .ok (.invokevirtual 90, 3) := by decide +kernel
theorem dX1_gradeLevelled_76 : decode cX1_gradeLevelled 76 = .ok (.astore 4, 2) := by decide +kernel
theorem dX1_gradeLevelled_78 : decode cX1_gradeLevelled 78 = .ok (.aload 4, 2) := by decide +kernel
theorem dX1_gradeLevelled_80 : decode cX1_gradeLevelled 80 = .ok (.ifnonnull 6, 3) := by decide +kernel
theorem dX1_gradeLevelled_83 : decode cX1_gradeLevelled 83 = .ok (.goto 63, 3) := by decide +kernel
theorem dX1_gradeLevelled_86 : decode cX1_gradeLevelled 86 = .ok (.aload_n 0, 1) := by decide +kernel
theorem dX1_gradeLevelled_87 : decode cX1_gradeLevelled 87 = .ok (.aload_n 1, 1) := by decide +kernel
theorem dX1_gradeLevelled_88 : decode cX1_gradeLevelled 88 = .ok (.iload_n 3, 1) := by decide +kernel
theorem dX1_gradeLevelled_89 : decode cX1_gradeLevelled 89 = .ok (.invokevirtual 55, 3) := by decide +kernel
theorem dX1_gradeLevelled_92 : decode cX1_gradeLevelled 92 = .ok (.invokevirtual 101, 3) := by decide +kernel
theorem dX1_gradeLevelled_95 : decode cX1_gradeLevelled 95 = .ok (.iload_n 2, 1) := by decide +kernel
theorem dX1_gradeLevelled_96 : decode cX1_gradeLevelled 96 = .ok (.aload_n 0, 1) := by decide +kernel
theorem dX1_gradeLevelled_97 : decode cX1_gradeLevelled 97 = .ok (.invokevirtual 118, 3) := by decide +kernel
theorem dX1_gradeLevelled_100 : decode cX1_gradeLevelled 100 = .ok (.isub, 1) := by decide +kernel
theorem dX1_gradeLevelled_101 : decode cX1_gradeLevelled 101 = .ok (.istore 5, 2) := by decide +kernel
theorem dX1_gradeLevelled_103 : decode cX1_gradeLevelled 103 = .ok (.iconst 0, 1) := by decide +kernel
theorem dX1_gradeLevelled_104 : decode cX1_gradeLevelled 104 = .ok (.istore 6, 2) := by decide +kernel
theorem dX1_gradeLevelled_106 : decode cX1_gradeLevelled 106 = .ok (.iload 6, 2) := by decide +kernel
theorem dX1_gradeLevelled_108 : decode cX1_gradeLevelled 108 = .ok (.aload_n 0, 1) := by decide +kernel
theorem dX1_gradeLevelled_109 : decode cX1_gradeLevelled 109 = .ok (.getfield 115, 3) := by decide +kernel
theorem dX1_gradeLevelled_112 : decode cX1_gradeLevelled 112 = .ok (.if_icmp .ge 26, 3) := by decide +kernel
theorem dX1_gradeLevelled_115 : decode cX1_gradeLevelled 115 = .ok (.aload_n 0, 1) := by decide +kernel
theorem dX1_gradeLevelled_116 : decode cX1_gradeLevelled 116 = .ok (.getfield 15, 3) := by decide +kernel
theorem dX1_gradeLevelled_119 : decode cX1_gradeLevelled 119 = .ok (.aload_n 0, 1) := by decide +kernel
theorem dX1_gradeLevelled_120 : decode cX1_gradeLevelled 120 = .ok (.getfield 18, 3) := by decide +kernel
theorem dX1_gradeLevelled_123 : decode cX1_gradeLevelled 123 = .ok (.iload 6, 2) := by decide +kernel
theorem dX1_gradeLevelled_125 : decode cX1_gradeLevelled 125 = .ok (.iaload, 1) := by decide +kernel
theorem dX1_gradeLevelled_126 : decode cX1_gradeLevelled 126 = .ok (.dup2, 1) := by decide +kernel
theorem dX1_gradeLevelled_127 : decode cX1_gradeLevelled 127 = .ok (.iaload, 1) := by decide +kernel
theorem dX1_gradeLevelled_128 : decode cX1_gradeLevelled 128 = .ok (.iload 5, 2) := by decide +kernel
theorem dX1_gradeLevelled_130 : decode cX1_gradeLevelled 130 = .ok (.iadd, 1) := by decide +kernel
theorem dX1_gradeLevelled_131 : decode cX1_gradeLevelled 131 = .ok (.iastore, 1) := by decide +kernel
theorem dX1_gradeLevelled_132 : decode cX1_gradeLevelled 132 = .ok (.iinc 6 1, 3) := by decide +kernel
theorem dX1_gradeLevelled_135 : decode cX1_gradeLevelled 135 = .ok (.goto (-29), 3) := by decide +kernel
theorem dX1_gradeLevelled_138 : decode cX1_gradeLevelled 138 = .ok (.aload_n 0, 1) := by decide +kernel
theorem dX1_gradeLevelled_139 : decode cX1_gradeLevelled 139 = .ok (.aload_n 1, 1) := by decide +kernel
theorem dX1_gradeLevelled_140 : decode cX1_gradeLevelled 140 = .ok (.aload 4, 2) := by decide +kernel
theorem dX1_gradeLevelled_142 : decode cX1_gradeLevelled 142 = .ok (.invokevirtual 109, 3) := by decide +kernel
theorem dX1_gradeLevelled_145 : decode cX1_gradeLevelled 145 = .ok (.pop, 1) := by decide +kernel
theorem dX1_gradeLevelled_146 : decode cX1_gradeLevelled 146 = .ok (.iinc 3 1, 3) := by decide +kernel
theorem dX1_gradeLevelled_149 : decode cX1_gradeLevelled 149 = .ok (.goto (-86), 3) := by decide +kernel
theorem dX1_gradeLevelled_152 : decode cX1_gradeLevelled 152 = .ok (.return_, 1) := by decide +kernel
theorem dX1_meanOfTeam_0 : decode cX1_meanOfTeam 0 = .ok (.aload_n 0, 1) := by decide +kernel
theorem dX1_meanOfTeam_1 : decode cX1_meanOfTeam 1 = .ok (.getfield 115, 3) := by decide +kernel
theorem dX1_meanOfTeam_4 : decode cX1_meanOfTeam 4 = .ok (.ifCond .ne 5, 3) := by decide +kernel
theorem dX1_meanOfTeam_7 : decode cX1_meanOfTeam 7 = .ok (.iconst 0, 1) := by decide +kernel
theorem dX1_meanOfTeam_8 : decode cX1_meanOfTeam 8 = .ok (.ireturn, 1) := by decide +kernel
theorem dX1_meanOfTeam_9 : decode cX1_meanOfTeam 9 = .ok (.iconst 0, 1) := by decide +kernel
theorem dX1_meanOfTeam_10 : decode cX1_meanOfTeam 10 = .ok (.istore_n 1, 1) := by decide +kernel
theorem dX1_meanOfTeam_11 : decode cX1_meanOfTeam 11 = .ok (.iconst 0, 1) := by decide +kernel
theorem dX1_meanOfTeam_12 : decode cX1_meanOfTeam 12 = .ok (.istore_n 2, 1) := by decide +kernel
theorem dX1_meanOfTeam_13 : decode cX1_meanOfTeam 13 = .ok (.iload_n 2, 1) := by decide +kernel
theorem dX1_meanOfTeam_14 : decode cX1_meanOfTeam 14 = .ok (.aload_n 0, 1) := by decide +kernel
theorem dX1_meanOfTeam_15 : decode cX1_meanOfTeam 15 = .ok (.getfield 115, 3) := by decide +kernel
theorem dX1_meanOfTeam_18 : decode cX1_meanOfTeam 18 = .ok (.if_icmp .ge 23, 3) := by decide +kernel
theorem dX1_meanOfTeam_21 : decode cX1_meanOfTeam 21 = .ok (.iload_n 1, 1) := by decide +kernel
theorem dX1_meanOfTeam_22 : decode cX1_meanOfTeam 22 = .ok (.aload_n 0, 1) := by decide +kernel
theorem dX1_meanOfTeam_23 : decode cX1_meanOfTeam 23 = .ok (.getfield 15, 3) := by decide +kernel
theorem dX1_meanOfTeam_26 : decode cX1_meanOfTeam 26 = .ok (.aload_n 0, 1) := by decide +kernel
theorem dX1_meanOfTeam_27 : decode cX1_meanOfTeam 27 = .ok (.getfield 18, 3) := by decide +kernel
theorem dX1_meanOfTeam_30 : decode cX1_meanOfTeam 30 = .ok (.iload_n 2, 1) := by decide +kernel
theorem dX1_meanOfTeam_31 : decode cX1_meanOfTeam 31 = .ok (.iaload, 1) := by decide +kernel
theorem dX1_meanOfTeam_32 : decode cX1_meanOfTeam 32 = .ok (.iaload, 1) := by decide +kernel
theorem dX1_meanOfTeam_33 : decode cX1_meanOfTeam 33 = .ok (.iadd, 1) := by decide +kernel
theorem dX1_meanOfTeam_34 : decode cX1_meanOfTeam 34 = .ok (.istore_n 1, 1) := by decide +kernel
theorem dX1_meanOfTeam_35 : decode cX1_meanOfTeam 35 = .ok (.iinc 2 1, 3) := by decide +kernel
theorem dX1_meanOfTeam_38 : decode cX1_meanOfTeam 38 = .ok (.goto (-25), 3) := by decide +kernel
theorem dX1_meanOfTeam_41 : decode cX1_meanOfTeam 41 = .ok (.iload_n 1, 1) := by decide +kernel
theorem dX1_meanOfTeam_42 : decode cX1_meanOfTeam 42 = .ok (.aload_n 0, 1) := by decide +kernel
theorem dX1_meanOfTeam_43 : decode cX1_meanOfTeam 43 = .ok (.getfield 115, 3) := by decide +kernel
theorem dX1_meanOfTeam_46 : decode cX1_meanOfTeam 46 = .ok (.idiv, 1) := by decide +kernel
theorem dX1_meanOfTeam_47 : decode cX1_meanOfTeam 47 = .ok (.ireturn, 1) := by decide +kernel
theorem dX1_gather_0 : decode cX1_gather 0 = .ok (.aload_n 0, 1) := by decide +kernel
theorem dX1_gather_1 : decode cX1_gather 1 = .ok (.iconst 0, 1) := by decide +kernel
theorem dX1_gather_2 : decode cX1_gather 2 = .ok (.putfield 115, 3) := by decide +kernel
theorem dX1_gather_5 : decode cX1_gather 5 = .ok (.iconst 0, 1) := by decide +kernel
theorem dX1_gather_6 : decode cX1_gather 6 = .ok (.istore_n 2, 1) := by decide +kernel
theorem dX1_gather_7 : decode cX1_gather 7 = .ok (.iload_n 2, 1) := by decide +kernel
theorem dX1_gather_8 : decode cX1_gather 8 = .ok (.bipush 10, 2) := by decide +kernel
theorem dX1_gather_10 : decode cX1_gather 10 = .ok (.if_icmp .ge 34, 3) := by decide +kernel
theorem dX1_gather_13 : decode cX1_gather 13 = .ok (.iload_n 1, 1) := by decide +kernel
theorem dX1_gather_14 : decode cX1_gather 14 = .ok (.iconst 1, 1) := by decide +kernel
theorem dX1_gather_15 : decode cX1_gather 15 = .ok (.iload_n 2, 1) := by decide +kernel
theorem dX1_gather_16 : decode cX1_gather 16 = .ok (.ishl, 1) := by decide +kernel
theorem dX1_gather_17 : decode cX1_gather 17 = .ok (.iand, 1) := by decide +kernel
theorem dX1_gather_18 : decode cX1_gather 18 = .ok (.ifCond .eq 20, 3) := by decide +kernel
theorem dX1_gather_21 : decode cX1_gather 21 = .ok (.aload_n 0, 1) := by decide +kernel
theorem dX1_gather_22 : decode cX1_gather 22 = .ok (.getfield 18, 3) := by decide +kernel
theorem dX1_gather_25 : decode cX1_gather 25 = .ok (.aload_n 0, 1) := by decide +kernel
theorem dX1_gather_26 : decode cX1_gather 26 = .ok (.dup, 1) := by decide +kernel
theorem dX1_gather_27 : decode cX1_gather 27 = .ok (.getfield 115, 3) := by decide +kernel
theorem dX1_gather_30 : decode cX1_gather 30 = .ok (.dup_x1, 1) := by decide +kernel
theorem dX1_gather_31 : decode cX1_gather 31 = .ok (.iconst 1, 1) := by decide +kernel
theorem dX1_gather_32 : decode cX1_gather 32 = .ok (.iadd, 1) := by decide +kernel
theorem dX1_gather_33 : decode cX1_gather 33 = .ok (.putfield 115, 3) := by decide +kernel
theorem dX1_gather_36 : decode cX1_gather 36 = .ok (.iload_n 2, 1) := by decide +kernel
theorem dX1_gather_37 : decode cX1_gather 37 = .ok (.iastore, 1) := by decide +kernel
theorem dX1_gather_38 : decode cX1_gather 38 = .ok (.iinc 2 1, 3) := by decide +kernel
theorem dX1_gather_41 : decode cX1_gather 41 = .ok (.goto (-34), 3) := by decide +kernel
theorem dX1_gather_44 : decode cX1_gather 44 = .ok (.return_, 1) := by decide +kernel
set_option maxRecDepth 20000 in
theorem ggX1_markTeam_X1_markBy : GoodIn wsX1_markTeam wsX1_markBy := goodIn_r _ [8, 9, 10, 11, 12, 13, 14, 15, 16, 17, 18, 19, 20, 21, 22, 23, 24, 25, 26, 27, 28, 29, 30, 31, 32, 33, 34, 35, 36, 37, 38, 39, 40, 41, 42, 43, 44, 45, 46, 47, 48, 49, 50, 51, 52, 53, 54, 55, 56, 57, 58, 59, 60, 61, 62, 63, 64, 65, 66, 67, 68, 69, 70, 71, 72, 73, 74, 75, 76, 77, 78, 79, 80, 81, 82, 83, 84, 85, 86, 87, 88, 89, 90, 91, 92, 93, 94, 95, 96, 97, 98, 99, 100, 101, 102, 103, 104, 105, 106, 107, 108, 109, 110, 111, 112, 113, 114, 115, 116, 117, 118, 119, 120, 121, 122, 123, 124, 125, 126, 127, 128, 129, 130, 131, 132, 133, 134, 135, 136, 137, 138, 139, 140, 141, 142, 143, 144, 145, 146, 147, 148, 149, 150, 151, 152, 153, 154, 155, 156, 157, 158, 159, 160, 161, 162] (by decide +kernel) (by decide +kernel)
set_option maxRecDepth 20000 in
theorem gX1_markTeam_X1_markBy : GoodIn wsX1_markTeam (wsV RX1 122 RX1 yX1_markBy wsX1_markBy) := goodIn_app (goodIn_of _ (by decide +kernel)) ggX1_markTeam_X1_markBy
theorem dX1_markTeam_0 : decode cX1_markTeam 0 = .ok (.iconst 0, 1) := by decide +kernel
theorem dX1_markTeam_1 : decode cX1_markTeam 1 = .ok (.istore_n 3, 1) := by decide +kernel
theorem dX1_markTeam_2 : decode cX1_markTeam 2 = .ok (.iload_n 3, 1) := by decide +kernel
theorem dX1_markTeam_3 : decode cX1_markTeam 3 = .ok (.aload_n 0, 1) := by decide +kernel
theorem dX1_markTeam_4 : decode cX1_markTeam 4 = .ok (.getfield 115, 3) := by decide +kernel
theorem dX1_markTeam_7 : decode cX1_markTeam 7 = .ok (.if_icmp .ge 32, 3) := by decide +kernel
theorem dX1_markTeam_10 : decode cX1_markTeam 10 = .ok (.aload_n 0, 1) := by decide +kernel
theorem dX1_markTeam_11 : decode cX1_markTeam 11 = .ok (.getfield 15, 3) := by decide +kernel
theorem dX1_markTeam_14 : decode cX1_markTeam 14 = .ok (.aload_n 0, 1) := by decide +kernel
theorem dX1_markTeam_15 : decode cX1_markTeam 15 = .ok (.getfield 18, 3) := by decide +kernel
theorem dX1_markTeam_18 : decode cX1_markTeam 18 = .ok (.iload_n 3, 1) := by decide +kernel
theorem dX1_markTeam_19 : decode cX1_markTeam 19 = .ok (.iaload, 1) := by decide +kernel
theorem dX1_markTeam_20 : decode cX1_markTeam 20 = .ok (.aload_n 0, 1) := by decide +kernel
theorem dX1_markTeam_21 : decode cX1_markTeam 21 = .ok (.aload_n 1, 1) := by decide +kernel
theorem dX1_markTeam_22 : decode cX1_markTeam 22 = .ok (.aload_n 0, 1) := by decide +kernel
theorem dX1_markTeam_23 : decode cX1_markTeam 23 = .ok (.getfield 18, 3) := by decide +kernel
theorem dX1_markTeam_26 : decode cX1_markTeam 26 = .ok (.iload_n 3, 1) := by decide +kernel
theorem dX1_markTeam_27 : decode cX1_markTeam 27 = .ok (.iaload, 1) := by decide +kernel
theorem dX1_markTeam_28 : decode cX1_markTeam 28 = .ok (.aload_n 2, 1) := by decide +kernel
theorem dX1_markTeam_29 : decode cX1_markTeam 29 = .ok (.invokevirtual 122, 3) := by decide +kernel
theorem dX1_markTeam_32 : decode cX1_markTeam 32 = .ok (.iastore, 1) := by decide +kernel
theorem dX1_markTeam_33 : decode cX1_markTeam 33 = .ok (.iinc 3 1, 3) := by decide +kernel
theorem dX1_markTeam_36 : decode cX1_markTeam 36 = .ok (.goto (-34), 3) := by decide +kernel
theorem dX1_markTeam_39 : decode cX1_markTeam 39 = .ok (.return_, 1) := by decide +kernel
set_option maxRecDepth 20000 in
theorem ggX1_share_X1_rank : GoodIn wsX1_share wsX1_rank := goodIn_r _ [18, 3, 9, 12, 10, 77, 78, 79, 80, 81, 82, 83] (by decide +kernel) (by decide +kernel)
set_option maxRecDepth 20000 in
theorem gX1_share_X1_rank : GoodIn wsX1_share (wsV RX1 137 RX1 yX1_rank wsX1_rank) := goodIn_app (goodIn_of _ (by decide +kernel)) ggX1_share_X1_rank
set_option maxRecDepth 20000 in
theorem ggX1_share_X1_byMark : GoodIn wsX1_share wsX1_byMark := goodIn_r _ [21] (by decide +kernel) (by decide +kernel)
set_option maxRecDepth 20000 in
theorem gX1_share_X1_byMark : GoodIn wsX1_share (va_wsS RX1 140 yX1_byMark wsX1_byMark) := goodIn_app (goodIn_of _ (by decide +kernel)) ggX1_share_X1_byMark
set_option maxRecDepth 20000 in
theorem ggX1_share_X0_lineUp : GoodIn wsX1_share wsX0_lineUp := goodIn_r _ [26] (by decide +kernel) (by decide +kernel)
set_option maxRecDepth 20000 in
theorem gX1_share_X0_lineUp : GoodIn wsX1_share (wsV RX1 143 RX0 yX0_lineUp wsX0_lineUp) := goodIn_app (goodIn_of _ (by decide +kernel)) ggX1_share_X0_lineUp
set_option maxRecDepth 20000 in
theorem ggX1_share_X3_lineUp : GoodIn wsX1_share wsX3_lineUp := goodIn_r _ [33, 34, 35, 36, 37, 38, 39, 40, 41, 84, 85, 86, 87, 88, 89, 90, 91, 92, 93, 94, 95, 96, 97, 98, 99, 100, 101, 102, 103, 104, 105, 106, 107, 108, 109, 110, 111] (by decide +kernel) (by decide +kernel)
set_option maxRecDepth 20000 in
theorem gX1_share_X3_lineUp_u143X3 : GoodIn wsX1_share (va_wsO RX1 143 RX3 "ChiefGrades$Chief" ⟨"ChiefGrades$Chief", "lineUp", "([III[I)V"⟩ yX3_lineUp wsX3_lineUp) := goodIn_app (goodIn_of _ (by decide +kernel)) ggX1_share_X3_lineUp
set_option maxRecDepth 20000 in
theorem gX1_share_X0_lineUp_u143X4 : GoodIn wsX1_share (va_wsU RX1 143 RX4 "ChiefGrades$Chief" ⟨"ChiefGrades$Chief", "lineUp", "([III[I)V"⟩ yX0_lineUp wsX0_lineUp) := goodIn_app (goodIn_of _ (by decide +kernel)) ggX1_share_X0_lineUp
set_option maxRecDepth 20000 in
theorem gX1_share_X0_lineUp_u143X5 : GoodIn wsX1_share (va_wsU RX1 143 RX5 "ChiefGrades$Chief" ⟨"ChiefGrades$Chief", "lineUp", "([III[I)V"⟩ yX0_lineUp wsX0_lineUp) := goodIn_app (goodIn_of _ (by decide +kernel)) ggX1_share_X0_lineUp
set_option maxRecDepth 20000 in
theorem gX1_share_X0_lineUp_u143X6 : GoodIn wsX1_share (va_wsU RX1 143 RX6 "ChiefGrades$Chief" ⟨"ChiefGrades$Chief", "lineUp", "([III[I)V"⟩ yX0_lineUp wsX0_lineUp) := goodIn_app (goodIn_of _ (by decide +kernel)) ggX1_share_X0_lineUp
set_option maxRecDepth 20000 in
theorem gX1_share_X0_lineUp_u143X7 : GoodIn wsX1_share (va_wsU RX1 143 RX7 "ChiefGrades$Chief" ⟨"ChiefGrades$Chief", "lineUp", "([III[I)V"⟩ yX0_lineUp wsX0_lineUp) := goodIn_app (goodIn_of _ (by decide +kernel)) ggX1_share_X0_lineUp
set_option maxRecDepth 20000 in
theorem ggX1_share_X9_lineUp : GoodIn wsX1_share wsX9_lineUp := goodIn_r _ [41] (by decide +kernel) (by decide +kernel)
set_option maxRecDepth 20000 in
theorem gX1_share_X9_lineUp_u143X9 : GoodIn wsX1_share (va_wsO RX1 143 RX9 "ChiefGrades$Chief" ⟨"ChiefGrades$Chief", "lineUp", "([III[I)V"⟩ yX9_lineUp wsX9_lineUp) := goodIn_app (goodIn_of _ (by decide +kernel)) ggX1_share_X9_lineUp
theorem dX1_share_0 : decode cX1_share 0 = .ok (.aload_n 1, 1) := by decide +kernel
theorem dX1_share_1 : decode cX1_share 1 = .ok (.getfield 77, 3) := by decide +kernel
theorem dX1_share_4 : decode cX1_share 4 = .ok (.getfield 126, 3) := by decide +kernel
theorem dX1_share_7 : decode cX1_share 7 = .ok (.aload_n 0, 1) := by decide +kernel
theorem dX1_share_8 : decode cX1_share 8 = .ok (.getfield 115, 3) := by decide +kernel
theorem dX1_share_11 : decode cX1_share 11 = .ok (.imul, 1) := by decide +kernel
theorem dX1_share_12 : decode cX1_share 12 = .ok (.bipush 10, 2) := by decide +kernel
theorem dX1_share_14 : decode cX1_share 14 = .ok (.idiv, 1) := by decide +kernel
theorem dX1_share_15 : decode cX1_share 15 = .ok (.istore_n 3, 1) := by decide +kernel
theorem dX1_share_16 : decode cX1_share 16 = .ok (.aload_n 0, 1) := by decide +kernel
theorem dX1_share_17 : decode cX1_share 17 = .ok (.getfield 115, 3) := by decide +kernel
theorem dX1_share_20 : decode cX1_share 20 = .ok (.aload_n 1, 1) := by decide +kernel
theorem dX1_share_21 : decode cX1_share 21 = .ok (.getfield 77, 3) := by decide +kernel
theorem dX1_share_24 : decode cX1_share 24 = .ok (.getfield 129, 3) := by decide +kernel
theorem dX1_share_27 : decode cX1_share 27 = .ok (.aload_n 0, 1) := by decide +kernel
theorem dX1_share_28 : decode cX1_share 28 = .ok (.getfield 115, 3) := by decide +kernel
theorem dX1_share_31 : decode cX1_share 31 = .ok (.imul, 1) := by decide +kernel
theorem dX1_share_32 : decode cX1_share 32 = .ok (.bipush 10, 2) := by decide +kernel
theorem dX1_share_34 : decode cX1_share 34 = .ok (.idiv, 1) := by decide +kernel
theorem dX1_share_35 : decode cX1_share 35 = .ok (.invokestatic 132, 3) := by decide +kernel
theorem dX1_share_38 : decode cX1_share 38 = .ok (.istore 4, 2) := by decide +kernel
theorem dX1_share_40 : decode cX1_share 40 = .ok (.aload_n 0, 1) := by decide +kernel
theorem dX1_share_41 : decode cX1_share 41 = .ok (.invokevirtual 137, 3) := by decide +kernel
theorem dX1_share_44 : decode cX1_share 44 = .ok (.iconst 0, 1) := by decide +kernel
theorem dX1_share_45 : decode cX1_share 45 = .ok (.istore 5, 2) := by decide +kernel
theorem dX1_share_47 : decode cX1_share 47 = .ok (.iload 5, 2) := by decide +kernel
theorem dX1_share_49 : decode cX1_share 49 = .ok (.aload_n 0, 1) := by decide +kernel
theorem dX1_share_50 : decode cX1_share 50 = .ok (.getfield 115, 3) := by decide +kernel
theorem dX1_share_53 : decode cX1_share 53 = .ok (.if_icmp .ge 73, 3) := by decide +kernel
theorem dX1_share_56 : decode cX1_share 56 = .ok (.aload_n 0, 1) := by decide +kernel
theorem dX1_share_57 : decode cX1_share 57 = .ok (.getfield 15, 3) := by decide +kernel
theorem dX1_share_60 : decode cX1_share 60 = .ok (.aload_n 0, 1) := by decide +kernel
theorem dX1_share_61 : decode cX1_share 61 = .ok (.getfield 21, 3) := by decide +kernel
theorem dX1_share_64 : decode cX1_share 64 = .ok (.iload 5, 2) := by decide +kernel
theorem dX1_share_66 : decode cX1_share 66 = .ok (.iaload, 1) := by decide +kernel
theorem dX1_share_67 : decode cX1_share 67 = .ok (.iaload, 1) := by decide +kernel
theorem dX1_share_68 : decode cX1_share 68 = .ok (.invokestatic 140, 3) := by decide +kernel
theorem dX1_share_71 : decode cX1_share 71 = .ok (.istore 6, 2) := by decide +kernel
theorem dX1_share_73 : decode cX1_share 73 = .ok (.iload 5, 2) := by decide +kernel
theorem dX1_share_75 : decode cX1_share 75 = .ok (.aload_n 0, 1) := by decide +kernel
theorem dX1_share_76 : decode cX1_share 76 = .ok (.getfield 115, 3) := by decide +kernel
theorem dX1_share_79 : decode cX1_share 79 = .ok (.iload_n 3, 1) := by decide +kernel
theorem dX1_share_80 : decode cX1_share 80 = .ok (.isub, 1) := by decide +kernel
theorem dX1_share_81 : decode cX1_share 81 = .ok (.if_icmp .lt 7, 3) := by decide +kernel
theorem dX1_share_84 : decode cX1_share 84 = .ok (.iconst 1, 1) := by decide +kernel
theorem dX1_share_85 : decode cX1_share 85 = .ok (.goto 4, 3) := by decide +kernel
theorem dX1_share_88 : decode cX1_share 88 = .ok (.iconst 0, 1) := by decide +kernel
theorem dX1_share_89 : decode cX1_share 89 = .ok (.istore 7, 2) := by decide +kernel
theorem dX1_share_91 : decode cX1_share 91 = .ok (.aload_n 0, 1) := by decide +kernel
theorem dX1_share_92 : decode cX1_share 92 = .ok (.getfield 9, 3) := by decide +kernel
theorem dX1_share_95 : decode cX1_share 95 = .ok (.aload_n 0, 1) := by decide +kernel
theorem dX1_share_96 : decode cX1_share 96 = .ok (.getfield 21, 3) := by decide +kernel
theorem dX1_share_99 : decode cX1_share 99 = .ok (.iload 5, 2) := by decide +kernel
theorem dX1_share_101 : decode cX1_share 101 = .ok (.iaload, 1) := by decide +kernel
theorem dX1_share_102 : decode cX1_share 102 = .ok (.iload 6, 2) := by decide +kernel
theorem dX1_share_104 : decode cX1_share 104 = .ok (.iconst 5, 1) := by decide +kernel
theorem dX1_share_105 : decode cX1_share 105 = .ok (.if_icmp .ne 12, 3) := by decide +kernel
theorem dX1_share_108 : decode cX1_share 108 = .ok (.iload 7, 2) := by decide +kernel
theorem dX1_share_110 : decode cX1_share 110 = .ok (.ifCond .ne 7, 3) := by decide +kernel
theorem dX1_share_113 : decode cX1_share 113 = .ok (.iconst 4, 1) := by decide +kernel
theorem dX1_share_114 : decode cX1_share 114 = .ok (.goto 5, 3) := by decide +kernel
theorem dX1_share_117 : decode cX1_share 117 = .ok (.iload 6, 2) := by decide +kernel
theorem dX1_share_119 : decode cX1_share 119 = .ok (.iastore, 1) := by decide +kernel
theorem dX1_share_120 : decode cX1_share 120 = .ok (.iinc 5 1, 3) := by decide +kernel
theorem dX1_share_123 : decode cX1_share 123 = .ok (.goto (-76), 3) := by decide +kernel
theorem dX1_share_126 : decode cX1_share 126 = .ok (.aload_n 2, 1) := by decide +kernel
theorem dX1_share_127 : decode cX1_share 127 = .ok (.aload_n 0, 1) := by decide +kernel
theorem dX1_share_128 : decode cX1_share 128 = .ok (.getfield 18, 3) := by decide +kernel
theorem dX1_share_131 : decode cX1_share 131 = .ok (.aload_n 0, 1) := by decide +kernel
theorem dX1_share_132 : decode cX1_share 132 = .ok (.getfield 115, 3) := by decide +kernel
theorem dX1_share_135 : decode cX1_share 135 = .ok (.aload_n 1, 1) := by decide +kernel
theorem dX1_share_136 : decode cX1_share 136 = .ok (.getfield 52, 3) := by decide +kernel
theorem dX1_share_139 : decode cX1_share 139 = .ok (.aload_n 0, 1) := by decide +kernel
theorem dX1_share_140 : decode cX1_share 140 = .ok (.getfield 21, 3) := by decide +kernel
theorem dX1_share_143 : decode cX1_share 143 = .ok (.invokevirtual 143, 3) := by decide +kernel
theorem dX1_share_146 : decode cX1_share 146 = .ok (.iconst 0, 1) := by decide +kernel
theorem dX1_share_147 : decode cX1_share 147 = .ok (.istore 5, 2) := by decide +kernel
theorem dX1_share_149 : decode cX1_share 149 = .ok (.iload 5, 2) := by decide +kernel
theorem dX1_share_151 : decode cX1_share 151 = .ok (.iload 4, 2) := by decide +kernel
theorem dX1_share_153 : decode cX1_share 153 = .ok (.if_icmp .ge 22, 3) := by decide +kernel
theorem dX1_share_156 : decode cX1_share 156 = .ok (.aload_n 0, 1) := by decide +kernel
theorem dX1_share_157 : decode cX1_share 157 = .ok (.getfield 9, 3) := by decide +kernel
theorem dX1_share_160 : decode cX1_share 160 = .ok (.aload_n 0, 1) := by decide +kernel
theorem dX1_share_161 : decode cX1_share 161 = .ok (.getfield 21, 3) := by decide +kernel
theorem dX1_share_164 : decode cX1_share 164 = .ok (.iload 5, 2) := by decide +kernel
theorem dX1_share_166 : decode cX1_share 166 = .ok (.iaload, 1) := by decide +kernel
theorem dX1_share_167 : decode cX1_share 167 = .ok (.iconst 1, 1) := by decide +kernel
theorem dX1_share_168 : decode cX1_share 168 = .ok (.iastore, 1) := by decide +kernel
theorem dX1_share_169 : decode cX1_share 169 = .ok (.iinc 5 1, 3) := by decide +kernel
theorem dX1_share_172 : decode cX1_share 172 = .ok (.goto (-23), 3) := by decide +kernel
theorem dX1_share_175 : decode cX1_share 175 = .ok (.iconst 0, 1) := by decide +kernel
theorem dX1_share_176 : decode cX1_share 176 = .ok (.istore 5, 2) := by decide +kernel
theorem dX1_share_178 : decode cX1_share 178 = .ok (.iconst 0, 1) := by decide +kernel
theorem dX1_share_179 : decode cX1_share 179 = .ok (.istore 6, 2) := by decide +kernel
theorem dX1_share_181 : decode cX1_share 181 = .ok (.iload 6, 2) := by decide +kernel
theorem dX1_share_183 : decode cX1_share 183 = .ok (.aload_n 0, 1) := by decide +kernel
theorem dX1_share_184 : decode cX1_share 184 = .ok (.getfield 115, 3) := by decide +kernel
theorem dX1_share_187 : decode cX1_share 187 = .ok (.if_icmp .ge 26, 3) := by decide +kernel
theorem dX1_share_190 : decode cX1_share 190 = .ok (.iload 5, 2) := by decide +kernel
theorem dX1_share_192 : decode cX1_share 192 = .ok (.aload_n 0, 1) := by decide +kernel
theorem dX1_share_193 : decode cX1_share 193 = .ok (.getfield 9, 3) := by decide +kernel
theorem dX1_share_196 : decode cX1_share 196 = .ok (.aload_n 0, 1) := by decide +kernel
theorem dX1_share_197 : decode cX1_share 197 = .ok (.getfield 18, 3) := by decide +kernel
theorem dX1_share_200 : decode cX1_share 200 = .ok (.iload 6, 2) := by decide +kernel
theorem dX1_share_202 : decode cX1_share 202 = .ok (.iaload, 1) := by decide +kernel
theorem dX1_share_203 : decode cX1_share 203 = .ok (.iaload, 1) := by decide +kernel
theorem dX1_share_204 : decode cX1_share 204 = .ok (.iadd, 1) := by decide +kernel
theorem dX1_share_205 : decode cX1_share 205 = .ok (.istore 5, 2) := by decide +kernel
theorem dX1_share_207 : decode cX1_share 207 = .ok (.iinc 6 1, 3) := by decide +kernel
theorem dX1_share_210 : decode cX1_share 210 = .ok (.goto (-29), 3) := by decide +kernel
theorem dX1_share_213 : decode cX1_share 213 = .ok (.iload 5, 2) := by decide +kernel
theorem dX1_share_215 : decode cX1_share 215 = .ok (.ireturn, 1) := by decide +kernel
theorem dX1_byMark_0 : decode cX1_byMark 0 = .ok (.iload_n 0, 1) := by decide +kernel
theorem dX1_byMark_1 : decode cX1_byMark 1 = .ok (.bipush 80, 2) := by decide +kernel
theorem dX1_byMark_3 : decode cX1_byMark 3 = .ok (.if_icmp .lt 7, 3) := by decide +kernel
theorem dX1_byMark_6 : decode cX1_byMark 6 = .ok (.iconst 5, 1) := by decide +kernel
theorem dX1_byMark_7 : decode cX1_byMark 7 = .ok (.goto 34, 3) := by decide +kernel
theorem dX1_byMark_10 : decode cX1_byMark 10 = .ok (.iload_n 0, 1) := by decide +kernel
theorem dX1_byMark_11 : decode cX1_byMark 11 = .ok (.bipush 60, 2) := by decide +kernel
theorem dX1_byMark_13 : decode cX1_byMark 13 = .ok (.if_icmp .lt 7, 3) := by decide +kernel
theorem dX1_byMark_16 : decode cX1_byMark 16 = .ok (.iconst 4, 1) := by decide +kernel
theorem dX1_byMark_17 : decode cX1_byMark 17 = .ok (.goto 24, 3) := by decide +kernel
theorem dX1_byMark_20 : decode cX1_byMark 20 = .ok (.iload_n 0, 1) := by decide +kernel
theorem dX1_byMark_21 : decode cX1_byMark 21 = .ok (.bipush 40, 2) := by decide +kernel
theorem dX1_byMark_23 : decode cX1_byMark 23 = .ok (.if_icmp .lt 7, 3) := by decide +kernel
theorem dX1_byMark_26 : decode cX1_byMark 26 = .ok (.iconst 3, 1) := by decide +kernel
theorem dX1_byMark_27 : decode cX1_byMark 27 = .ok (.goto 14, 3) := by decide +kernel
theorem dX1_byMark_30 : decode cX1_byMark 30 = .ok (.iload_n 0, 1) := by decide +kernel
theorem dX1_byMark_31 : decode cX1_byMark 31 = .ok (.bipush 20, 2) := by decide +kernel
theorem dX1_byMark_33 : decode cX1_byMark 33 = .ok (.if_icmp .lt 7, 3) := by decide +kernel
theorem dX1_byMark_36 : decode cX1_byMark 36 = .ok (.iconst 2, 1) := by decide +kernel
theorem dX1_byMark_37 : decode cX1_byMark 37 = .ok (.goto 4, 3) := by decide +kernel
theorem dX1_byMark_40 : decode cX1_byMark 40 = .ok (.iconst 1, 1) := by decide +kernel
theorem dX1_byMark_41 : decode cX1_byMark 41 = .ok (.ireturn, 1) := by decide +kernel
theorem dX1_rank_0 : decode cX1_rank 0 = .ok (.iconst 0, 1) := by decide +kernel
theorem dX1_rank_1 : decode cX1_rank 1 = .ok (.istore_n 1, 1) := by decide +kernel
theorem dX1_rank_2 : decode cX1_rank 2 = .ok (.iload_n 1, 1) := by decide +kernel
theorem dX1_rank_3 : decode cX1_rank 3 = .ok (.aload_n 0, 1) := by decide +kernel
theorem dX1_rank_4 : decode cX1_rank 4 = .ok (.getfield 115, 3) := by decide +kernel
theorem dX1_rank_7 : decode cX1_rank 7 = .ok (.if_icmp .ge 121, 3) := by decide +kernel
theorem dX1_rank_10 : decode cX1_rank 10 = .ok (.iconst 0, 1) := by decide +kernel
theorem dX1_rank_11 : decode cX1_rank 11 = .ok (.istore_n 2, 1) := by decide +kernel
theorem dX1_rank_12 : decode cX1_rank 12 = .ok (.iconst 0, 1) := by decide +kernel
theorem dX1_rank_13 : decode cX1_rank 13 = .ok (.istore_n 3, 1) := by decide +kernel
theorem dX1_rank_14 : decode cX1_rank 14 = .ok (.iload_n 3, 1) := by decide +kernel
theorem dX1_rank_15 : decode cX1_rank 15 = .ok (.aload_n 0, 1) := by decide +kernel
theorem dX1_rank_16 : decode cX1_rank 16 = .ok (.getfield 115, 3) := by decide +kernel
theorem dX1_rank_19 : decode cX1_rank 19 = .ok (.if_icmp .ge 91, 3) := by decide +kernel
theorem dX1_rank_22 : decode cX1_rank 22 = .ok (.aload_n 0, 1) := by decide +kernel
theorem dX1_rank_23 : decode cX1_rank 23 = .ok (.getfield 15, 3) := by decide +kernel
theorem dX1_rank_26 : decode cX1_rank 26 = .ok (.aload_n 0, 1) := by decide +kernel
theorem dX1_rank_27 : decode cX1_rank 27 = .ok (.getfield 18, 3) := by decide +kernel
theorem dX1_rank_30 : decode cX1_rank 30 = .ok (.iload_n 3, 1) := by decide +kernel
theorem dX1_rank_31 : decode cX1_rank 31 = .ok (.iaload, 1) := by decide +kernel
theorem dX1_rank_32 : decode cX1_rank 32 = .ok (.iaload, 1) := by decide +kernel
theorem dX1_rank_33 : decode cX1_rank 33 = .ok (.aload_n 0, 1) := by decide +kernel
theorem dX1_rank_34 : decode cX1_rank 34 = .ok (.getfield 15, 3) := by decide +kernel
theorem dX1_rank_37 : decode cX1_rank 37 = .ok (.aload_n 0, 1) := by decide +kernel
theorem dX1_rank_38 : decode cX1_rank 38 = .ok (.getfield 18, 3) := by decide +kernel
theorem dX1_rank_41 : decode cX1_rank 41 = .ok (.iload_n 1, 1) := by decide +kernel
theorem dX1_rank_42 : decode cX1_rank 42 = .ok (.iaload, 1) := by decide +kernel
theorem dX1_rank_43 : decode cX1_rank 43 = .ok (.iaload, 1) := by decide +kernel
theorem dX1_rank_44 : decode cX1_rank 44 = .ok (.if_icmp .ge 7, 3) := by decide +kernel
theorem dX1_rank_47 : decode cX1_rank 47 = .ok (.iconst 1, 1) := by decide +kernel
theorem dX1_rank_48 : decode cX1_rank 48 = .ok (.goto 4, 3) := by decide +kernel
theorem dX1_rank_51 : decode cX1_rank 51 = .ok (.iconst 0, 1) := by decide +kernel
theorem dX1_rank_52 : decode cX1_rank 52 = .ok (.istore 4, 2) := by decide +kernel
theorem dX1_rank_54 : decode cX1_rank 54 = .ok (.aload_n 0, 1) := by decide +kernel
theorem dX1_rank_55 : decode cX1_rank 55 = .ok (.getfield 15, 3) := by decide +kernel
theorem dX1_rank_58 : decode cX1_rank 58 = .ok (.aload_n 0, 1) := by decide +kernel
theorem dX1_rank_59 : decode cX1_rank 59 = .ok (.getfield 18, 3) := by decide +kernel
theorem dX1_rank_62 : decode cX1_rank 62 = .ok (.iload_n 3, 1) := by decide +kernel
theorem dX1_rank_63 : decode cX1_rank 63 = .ok (.iaload, 1) := by decide +kernel
theorem dX1_rank_64 : decode cX1_rank 64 = .ok (.iaload, 1) := by decide +kernel
theorem dX1_rank_65 : decode cX1_rank 65 = .ok (.aload_n 0, 1) := by decide +kernel
theorem dX1_rank_66 : decode cX1_rank 66 = .ok (.getfield 15, 3) := by decide +kernel
theorem dX1_rank_69 : decode cX1_rank 69 = .ok (.aload_n 0, 1) := by decide +kernel
theorem dX1_rank_70 : decode cX1_rank 70 = .ok (.getfield 18, 3) := by decide +kernel
theorem dX1_rank_73 : decode cX1_rank 73 = .ok (.iload_n 1, 1) := by decide +kernel
theorem dX1_rank_74 : decode cX1_rank 74 = .ok (.iaload, 1) := by decide +kernel
theorem dX1_rank_75 : decode cX1_rank 75 = .ok (.iaload, 1) := by decide +kernel
theorem dX1_rank_76 : decode cX1_rank 76 = .ok (.if_icmp .ne 7, 3) := by decide +kernel
theorem dX1_rank_79 : decode cX1_rank 79 = .ok (.iconst 1, 1) := by decide +kernel
theorem dX1_rank_80 : decode cX1_rank 80 = .ok (.goto 4, 3) := by decide +kernel
theorem dX1_rank_83 : decode cX1_rank 83 = .ok (.iconst 0, 1) := by decide +kernel
theorem dX1_rank_84 : decode cX1_rank 84 = .ok (.istore 5, 2) := by decide +kernel
theorem dX1_rank_86 : decode cX1_rank 86 = .ok (.iload 4, 2) := by decide +kernel
theorem dX1_rank_88 : decode cX1_rank 88 = .ok (.ifCond .ne 13, 3) := by decide +kernel
theorem dX1_rank_91 : decode cX1_rank 91 = .ok (.iload 5, 2) := by decide +kernel
theorem dX1_rank_93 : decode cX1_rank 93 = .ok (.ifCond .eq 11, 3) := by decide +kernel
theorem dX1_rank_96 : decode cX1_rank 96 = .ok (.iload_n 3, 1) := by decide +kernel
theorem dX1_rank_97 : decode cX1_rank 97 = .ok (.iload_n 1, 1) := by decide +kernel
theorem dX1_rank_98 : decode cX1_rank 98 = .ok (.if_icmp .le 6, 3) := by decide +kernel
theorem dX1_rank_101 : decode cX1_rank 101 = .ok (.iinc 2 1, 3) := by decide +kernel
theorem dX1_rank_104 : decode cX1_rank 104 = .ok (.iinc 3 1, 3) := by decide +kernel
theorem dX1_rank_107 : decode cX1_rank 107 = .ok (.goto (-93), 3) := by decide +kernel
theorem dX1_rank_110 : decode cX1_rank 110 = .ok (.aload_n 0, 1) := by decide +kernel
theorem dX1_rank_111 : decode cX1_rank 111 = .ok (.getfield 21, 3) := by decide +kernel
theorem dX1_rank_114 : decode cX1_rank 114 = .ok (.iload_n 2, 1) := by decide +kernel
theorem dX1_rank_115 : decode cX1_rank 115 = .ok (.aload_n 0, 1) := by decide +kernel
theorem dX1_rank_116 : decode cX1_rank 116 = .ok (.getfield 18, 3) := by decide +kernel
theorem dX1_rank_119 : decode cX1_rank 119 = .ok (.iload_n 1, 1) := by decide +kernel
theorem dX1_rank_120 : decode cX1_rank 120 = .ok (.iaload, 1) := by decide +kernel
theorem dX1_rank_121 : decode cX1_rank 121 = .ok (.iastore, 1) := by decide +kernel
theorem dX1_rank_122 : decode cX1_rank 122 = .ok (.iinc 1 1, 3) := by decide +kernel
theorem dX1_rank_125 : decode cX1_rank 125 = .ok (.goto (-123), 3) := by decide +kernel
theorem dX1_rank_128 : decode cX1_rank 128 = .ok (.return_, 1) := by decide +kernel
theorem dX2_init_0 : decode cX2_init 0 = .ok (.aload_n 0, 1) := by decide +kernel
theorem dX2_init_1 : decode cX2_init 1 = .ok (.invokespecial 1, 3) := by decide +kernel
theorem dX2_init_4 : decode cX2_init 4 = .ok (.aload_n 0, 1) := by decide +kernel
theorem dX2_init_5 : decode cX2_init 5 = .ok (.bipush 10, 2) := by decide +kernel
theorem dX2_init_7 : decode cX2_init 7 = .ok (.putfield 7, 3) := by decide +kernel
theorem dX2_init_10 : decode cX2_init 10 = .ok (.aload_n 0, 1) := by decide +kernel
theorem dX2_init_11 : decode cX2_init 11 = .ok (.iconst 0, 1) := by decide +kernel
theorem dX2_init_12 : decode cX2_init 12 = .ok (.putfield 13, 3) := by decide +kernel
theorem dX2_init_15 : decode cX2_init 15 = .ok (.aload_n 0, 1) := by decide +kernel
theorem dX2_init_16 : decode cX2_init 16 = .ok (.bipush 10, 2) := by decide +kernel
theorem dX2_init_18 : decode cX2_init 18 = .ok (.putfield 16, 3) := by decide +kernel
theorem dX2_init_21 : decode cX2_init 21 = .ok (.aload_n 0, 1) := by decide +kernel
theorem dX2_init_22 : decode cX2_init 22 = .ok (.aload_n 1, 1) := by decide +kernel
theorem dX2_init_23 : decode cX2_init 23 = .ok (.putfield 19, 3) := by decide +kernel
theorem dX2_init_26 : decode cX2_init 26 = .ok (.aload_n 0, 1) := by decide +kernel
theorem dX2_init_27 : decode cX2_init 27 = .ok (.iconst 0, 1) := by decide +kernel
theorem dX2_init_28 : decode cX2_init 28 = .ok (.iload_n 2, 1) := by decide +kernel
theorem dX2_init_29 : decode cX2_init 29 = .ok (.aload_n 1, 1) := by decide +kernel
theorem dX2_init_30 : decode cX2_init 30 = .ok (.arraylength, 1) := by decide +kernel
theorem dX2_init_31 : decode cX2_init 31 = .ok (.invokestatic 23, 3) := by decide +kernel
theorem dX2_init_34 : decode cX2_init 34 = .ok (.invokestatic 29, 3) := by decide +kernel
theorem dX2_init_37 : decode cX2_init 37 = .ok (.putfield 32, 3) := by decide +kernel
theorem dX2_init_40 : decode cX2_init 40 = .ok (.aload_n 0, 1) := by decide +kernel
theorem dX2_init_41 : decode cX2_init 41 = .ok (.aload_n 0, 1) := by decide +kernel
theorem dX2_init_42 : decode cX2_init 42 = .ok (.getfield 32, 3) := by decide +kernel
theorem dX2_init_45 : decode cX2_init 45 = .ok (.newarray .int, 2) := by decide +kernel
theorem dX2_init_47 : decode cX2_init 47 = .ok (.putfield 35, 3) := by decide +kernel
theorem dX2_init_50 : decode cX2_init 50 = .ok (.aload_n 0, 1) := by decide +kernel
theorem dX2_init_51 : decode cX2_init 51 = .ok (.aload_n 0, 1) := by decide +kernel
theorem dX2_init_52 : decode cX2_init 52 = .ok (.getfield 32, 3) := by decide +kernel
theorem dX2_init_55 : decode cX2_init 55 = .ok (.newarray .int, 2) := by decide +kernel
theorem dX2_init_57 : decode cX2_init 57 = .ok (.putfield 39, 3) := by decide +kernel
theorem dX2_init_60 : decode cX2_init 60 = .ok (.aload_n 0, 1) := by decide +kernel
theorem dX2_init_61 : decode cX2_init 61 = .ok (.aload_n 0, 1) := by decide +kernel
theorem dX2_init_62 : decode cX2_init 62 = .ok (.getfield 32, 3) := by decide +kernel
theorem dX2_init_65 : decode cX2_init 65 = .ok (.newarray .int, 2) := by decide +kernel
theorem dX2_init_67 : decode cX2_init 67 = .ok (.putfield 42, 3) := by decide +kernel
theorem dX2_init_70 : decode cX2_init 70 = .ok (.return_, 1) := by decide +kernel
set_option maxRecDepth 20000 in
theorem ggX2_read_X2_sign : GoodIn wsX2_read wsX2_sign := goodIn_r _ [11, 4, 5, 6, 12, 163, 164, 165, 166, 167, 168, 169, 170, 171, 172, 173] (by decide +kernel) (by decide +kernel)
