def wsX9_ofPerson_r5 : List Cond := [Cond.selects RX9 yX9_seesOf yX9_seesOf, Cond.code yX9_seesOf cX9_seesOf 7 (some .int), Cond.methodLink RX9 76 yX9_has, Cond.static yX9_has, Cond.code yX9_has cX9_has 2 (some .boolean)]
def wsX9_ofPerson : List Cond := .code yX9_ofPerson cX9_ofPerson 3 (some .int) :: ((wsX9_ofPerson_r1 ++ (wsX9_ofPerson_r2 ++ (wsX9_ofPerson_r3 ++ (wsX9_ofPerson_r4 ++ wsX9_ofPerson_r5)))) ++ wsX90)
def wsX9_lead : List Cond := .code yX9_lead cX9_lead 5 (some .int) :: ([.constant RX9 58 (-1000000001), .methodLink RX9 68 yX9_isCell, .instanceMethod yX9_isCell, .selects RX9 yX9_isCell yX9_isCell, .initialized RX9, .code yX9_isCell cX9_isCell 2 (some .boolean), .fieldLink RX9 7 "WheatCountsModel" "row" "[I", .methodLink RX9 54 yX9_in, .static yX9_in, .code yX9_in cX9_in 3 (some .boolean), .methodLink RX9 94 yX9_isPerson, .instanceMethod yX9_isPerson, .selects RX9 yX9_isPerson yX9_isPerson, .code yX9_isPerson cX9_isPerson 2 (some .boolean), .methodLink RX9 64 yX9_becomes, .instanceMethod yX9_becomes, .selects RX9 yX9_becomes yX9_becomes, .code yX9_becomes cX9_becomes 4 (some .int), .methodLink RX9 59 yX9_errs, .instanceMethod yX9_errs, .selects RX9 yX9_errs yX9_errs, .code yX9_errs cX9_errs 2 (some .int), .fieldLink RX9 22 "WheatCountsModel" "found" "[I", .constant RX9 53 (-1000000000)] ++ wsX90)
def wsX9_become : List Cond := .code yX9_become cX9_become 3 (some .int) :: ([.constant RX9 58 (-1000000001), .methodLink RX9 94 yX9_isPerson, .instanceMethod yX9_isPerson, .selects RX9 yX9_isPerson yX9_isPerson, .initialized RX9, .code yX9_isPerson cX9_isPerson 2 (some .boolean), .fieldLink RX9 7 "WheatCountsModel" "row" "[I", .methodLink RX9 54 yX9_in, .static yX9_in, .code yX9_in cX9_in 3 (some .boolean), .methodLink RX9 59 yX9_errs, .instanceMethod yX9_errs, .selects RX9 yX9_errs yX9_errs, .code yX9_errs cX9_errs 2 (some .int), .fieldLink RX9 22 "WheatCountsModel" "found" "[I", .constant RX9 53 (-1000000000), .methodLink RX9 90 yX9_gets, .instanceMethod yX9_gets, .selects RX9 yX9_gets yX9_gets, .code yX9_gets cX9_gets 4 none, .methodLink RX9 64 yX9_becomes, .instanceMethod yX9_becomes, .selects RX9 yX9_becomes yX9_becomes, .code yX9_becomes cX9_becomes 4 (some .int)] ++ wsX90)
def wsX9_above : List Cond := .code yX9_above cX9_above 1 (some .int) :: ([])
def wsX9_as : List Cond := .code yX9_as cX9_as 4 (some .int) :: ([.constant RX9 58 (-1000000001), .constant RX9 109 (-1000000005), .methodLink RX9 94 yX9_isPerson, .instanceMethod yX9_isPerson, .selects RX9 yX9_isPerson yX9_isPerson, .initialized RX9, .code yX9_isPerson cX9_isPerson 2 (some .boolean), .fieldLink RX9 7 "WheatCountsModel" "row" "[I", .methodLink RX9 54 yX9_in, .static yX9_in, .code yX9_in cX9_in 3 (some .boolean), .methodLink RX9 59 yX9_errs, .instanceMethod yX9_errs, .selects RX9 yX9_errs yX9_errs, .code yX9_errs cX9_errs 2 (some .int), .fieldLink RX9 22 "WheatCountsModel" "found" "[I", .constant RX9 53 (-1000000000), .methodLink RX9 80 yX9_its, .instanceMethod yX9_its, .selects RX9 yX9_its yX9_its, .code yX9_its cX9_its 3 (some .int), .methodLink RX9 106 yX9_above, .static yX9_above, .code yX9_above cX9_above 1 (some .int)] ++ wsX90)
def wsX9_law_r1 : List Cond := [Cond.constant RX9 58 (-1000000001), Cond.methodLink RX9 54 yX9_in, Cond.static yX9_in, Cond.initialized RX9, Cond.code yX9_in cX9_in 3 (some .boolean), Cond.methodLink RX9 177 yX9_lawOf, Cond.instanceMethod yX9_lawOf, Cond.selects RX9 yX9_lawOf yX9_lawOf, Cond.code yX9_lawOf cX9_lawOf 6 (some .int), Cond.fieldLink RX9 7 "WheatCountsModel" "row" "[I", Cond.methodLink RX9 169 yX9_walks, Cond.instanceMethod yX9_walks, Cond.selects RX9 yX9_walks yX9_walks, Cond.code yX9_walks cX9_walks 6 (some .int), Cond.fieldLink RX9 113 "WheatCountsModel" "use" "I", Cond.fieldLink RX9 120 "WheatCountsModel" "at" "I", Cond.fieldLink RX9 110 "WheatCountsModel" "end" "I", Cond.fieldLink RX9 148 "WheatCountsModel" "open" "I", Cond.fieldLink RX9 116 "WheatCountsModel" "good" "Z", Cond.fieldLink RX9 133 "WheatCountsModel" "namedA" "I", Cond.fieldLink RX9 136 "WheatCountsModel" "namedB" "I", Cond.fieldLink RX9 139 "WheatCountsModel" "namedC" "I", Cond.methodLink RX9 154 yX9_whole, Cond.instanceMethod yX9_whole]
def wsX9_law_r2 : List Cond := [Cond.selects RX9 yX9_whole yX9_whole, Cond.code yX9_whole cX9_whole 3 (some .int), Cond.methodLink RX9 166 yX9_both, Cond.instanceMethod yX9_both, Cond.selects RX9 yX9_both yX9_both, Cond.methodLink RX9 123 yX9_byteAt, Cond.instanceMethod yX9_byteAt, Cond.selects RX9 yX9_byteAt yX9_byteAt, Cond.code yX9_byteAt cX9_byteAt 2 (some .int), Cond.code yX9_both cX9_both 3 (some .int), Cond.methodLink RX9 163 yX9_compared, Cond.instanceMethod yX9_compared, Cond.selects RX9 yX9_compared yX9_compared, Cond.code yX9_compared cX9_compared 5 (some .int), Cond.methodLink RX9 160 yX9_sum, Cond.instanceMethod yX9_sum, Cond.selects RX9 yX9_sum yX9_sum, Cond.code yX9_factor cX9_factor 3 (some .int), Cond.methodLink RX9 126 yX9_isDigit, Cond.static yX9_isDigit, Cond.code yX9_isDigit cX9_isDigit 1 (some .boolean), Cond.methodLink RX9 142 yX9_number, Cond.instanceMethod yX9_number, Cond.selects RX9 yX9_number yX9_number]
def wsX9_law_r3 : List Cond := [Cond.code yX9_number cX9_number 3 (some .int), Cond.methodLink RX9 145 yX9_named, Cond.instanceMethod yX9_named, Cond.selects RX9 yX9_named yX9_named, Cond.code yX9_named cX9_named 5 (some .int), Cond.methodLink RX9 129 yX9_fails, Cond.instanceMethod yX9_fails, Cond.selects RX9 yX9_fails yX9_fails, Cond.code yX9_fails cX9_fails 1 (some .int), Cond.methodLink RX9 151 yX9_factor, Cond.instanceMethod yX9_factor, Cond.selects RX9 yX9_factor yX9_factor, Cond.code yX9_product cX9_product 4 (some .int), Cond.code yX9_sum cX9_sum 4 (some .int), Cond.methodLink RX9 157 yX9_product, Cond.instanceMethod yX9_product, Cond.selects RX9 yX9_product yX9_product, Cond.methodLink RX9 173 yX9_held, Cond.static yX9_held, Cond.code yX9_held cX9_held 3 (some .int), Cond.methodLink RX9 59 yX9_errs, Cond.instanceMethod yX9_errs, Cond.selects RX9 yX9_errs yX9_errs, Cond.code yX9_errs cX9_errs 2 (some .int)]
def wsX9_law_r4 : List Cond := [Cond.fieldLink RX9 22 "WheatCountsModel" "found" "[I", Cond.constant RX9 53 (-1000000000)]
def wsX9_law : List Cond := .code yX9_law cX9_law 5 (some .int) :: ((wsX9_law_r1 ++ (wsX9_law_r2 ++ (wsX9_law_r3 ++ wsX9_law_r4))) ++ wsX90)
def wsX9_feed : List Cond := .code yX9_feed cX9_feed 5 (some .int) :: ([.constant RX9 58 (-1000000001), .fieldLink RX9 7 "WheatCountsModel" "row" "[I", .constant RX9 89 (-1000000004), .constantLong RX9 180 (255), .methodLink RX9 54 yX9_in, .static yX9_in, .initialized RX9, .code yX9_in cX9_in 3 (some .boolean), .methodLink RX9 59 yX9_errs, .instanceMethod yX9_errs, .selects RX9 yX9_errs yX9_errs, .code yX9_errs cX9_errs 2 (some .int), .fieldLink RX9 22 "WheatCountsModel" "found" "[I", .constant RX9 53 (-1000000000)] ++ wsX90)
def wsX9_text_r1 : List Cond := [Cond.constant RX9 58 (-1000000001), Cond.fieldLink RX9 7 "WheatCountsModel" "row" "[I", Cond.fieldLink RX9 19 "WheatCountsModel" "before" "[I", Cond.fieldLink RX9 116 "WheatCountsModel" "good" "Z", Cond.fieldLink RX9 120 "WheatCountsModel" "at" "I", Cond.methodLink RX9 54 yX9_in, Cond.static yX9_in, Cond.initialized RX9, Cond.code yX9_in cX9_in 3 (some .boolean), Cond.methodLink RX9 59 yX9_errs, Cond.instanceMethod yX9_errs, Cond.selects RX9 yX9_errs yX9_errs, Cond.code yX9_errs cX9_errs 2 (some .int), Cond.fieldLink RX9 22 "WheatCountsModel" "found" "[I", Cond.constant RX9 53 (-1000000000), Cond.methodLink RX9 182 yX9_moveAll, Cond.instanceMethod yX9_moveAll, Cond.selects RX9 yX9_moveAll yX9_moveAll, Cond.code yX9_moveAll cX9_moveAll 4 none, Cond.methodLink RX9 169 yX9_walks, Cond.instanceMethod yX9_walks, Cond.selects RX9 yX9_walks yX9_walks, Cond.code yX9_walks cX9_walks 6 (some .int), Cond.fieldLink RX9 113 "WheatCountsModel" "use" "I"]
def wsX9_text_r2 : List Cond := [Cond.fieldLink RX9 110 "WheatCountsModel" "end" "I", Cond.fieldLink RX9 148 "WheatCountsModel" "open" "I", Cond.fieldLink RX9 133 "WheatCountsModel" "namedA" "I", Cond.fieldLink RX9 136 "WheatCountsModel" "namedB" "I", Cond.fieldLink RX9 139 "WheatCountsModel" "namedC" "I", Cond.methodLink RX9 154 yX9_whole, Cond.instanceMethod yX9_whole, Cond.selects RX9 yX9_whole yX9_whole, Cond.code yX9_whole cX9_whole 3 (some .int), Cond.methodLink RX9 166 yX9_both, Cond.instanceMethod yX9_both, Cond.selects RX9 yX9_both yX9_both, Cond.methodLink RX9 123 yX9_byteAt, Cond.instanceMethod yX9_byteAt, Cond.selects RX9 yX9_byteAt yX9_byteAt, Cond.code yX9_byteAt cX9_byteAt 2 (some .int), Cond.code yX9_both cX9_both 3 (some .int), Cond.methodLink RX9 163 yX9_compared, Cond.instanceMethod yX9_compared, Cond.selects RX9 yX9_compared yX9_compared, Cond.code yX9_compared cX9_compared 5 (some .int), Cond.methodLink RX9 160 yX9_sum, Cond.instanceMethod yX9_sum, Cond.selects RX9 yX9_sum yX9_sum]
def wsX9_text_r3 : List Cond := [Cond.code yX9_factor cX9_factor 3 (some .int), Cond.methodLink RX9 126 yX9_isDigit, Cond.static yX9_isDigit, Cond.code yX9_isDigit cX9_isDigit 1 (some .boolean), Cond.methodLink RX9 142 yX9_number, Cond.instanceMethod yX9_number, Cond.selects RX9 yX9_number yX9_number, Cond.code yX9_number cX9_number 3 (some .int), Cond.methodLink RX9 145 yX9_named, Cond.instanceMethod yX9_named, Cond.selects RX9 yX9_named yX9_named, Cond.code yX9_named cX9_named 5 (some .int), Cond.methodLink RX9 129 yX9_fails, Cond.instanceMethod yX9_fails, Cond.selects RX9 yX9_fails yX9_fails, Cond.code yX9_fails cX9_fails 1 (some .int), Cond.methodLink RX9 151 yX9_factor, Cond.instanceMethod yX9_factor, Cond.selects RX9 yX9_factor yX9_factor, Cond.code yX9_product cX9_product 4 (some .int), Cond.code yX9_sum cX9_sum 4 (some .int), Cond.methodLink RX9 157 yX9_product, Cond.instanceMethod yX9_product, Cond.selects RX9 yX9_product yX9_product]
def wsX9_text : List Cond := .code yX9_text cX9_text 5 (some .int) :: ((wsX9_text_r1 ++ (wsX9_text_r2 ++ wsX9_text_r3)) ++ wsX90)
def wsX9_takesAndGoes_r1 : List Cond := [Cond.fieldLink RX9 7 "WheatCountsModel" "row" "[I", Cond.constant RX9 72 (99999), Cond.methodLink RX9 80 yX9_its, Cond.instanceMethod yX9_its, Cond.selects RX9 yX9_its yX9_its, Cond.initialized RX9, Cond.code yX9_its cX9_its 3 (some .int), Cond.methodLink RX9 103 yX9_takes, Cond.instanceMethod yX9_takes, Cond.selects RX9 yX9_takes yX9_takes, Cond.code yX9_takes cX9_takes 4 (some .int), Cond.methodLink RX9 177 yX9_lawOf, Cond.instanceMethod yX9_lawOf, Cond.selects RX9 yX9_lawOf yX9_lawOf, Cond.code yX9_lawOf cX9_lawOf 6 (some .int), Cond.methodLink RX9 169 yX9_walks, Cond.instanceMethod yX9_walks, Cond.selects RX9 yX9_walks yX9_walks, Cond.code yX9_walks cX9_walks 6 (some .int), Cond.fieldLink RX9 113 "WheatCountsModel" "use" "I", Cond.fieldLink RX9 120 "WheatCountsModel" "at" "I", Cond.fieldLink RX9 110 "WheatCountsModel" "end" "I", Cond.fieldLink RX9 148 "WheatCountsModel" "open" "I", Cond.fieldLink RX9 116 "WheatCountsModel" "good" "Z"]
def wsX9_takesAndGoes_r2 : List Cond := [Cond.fieldLink RX9 133 "WheatCountsModel" "namedA" "I", Cond.fieldLink RX9 136 "WheatCountsModel" "namedB" "I", Cond.fieldLink RX9 139 "WheatCountsModel" "namedC" "I", Cond.methodLink RX9 154 yX9_whole, Cond.instanceMethod yX9_whole, Cond.selects RX9 yX9_whole yX9_whole, Cond.code yX9_whole cX9_whole 3 (some .int), Cond.methodLink RX9 166 yX9_both, Cond.instanceMethod yX9_both, Cond.selects RX9 yX9_both yX9_both, Cond.methodLink RX9 123 yX9_byteAt, Cond.instanceMethod yX9_byteAt, Cond.selects RX9 yX9_byteAt yX9_byteAt, Cond.code yX9_byteAt cX9_byteAt 2 (some .int), Cond.code yX9_both cX9_both 3 (some .int), Cond.methodLink RX9 163 yX9_compared, Cond.instanceMethod yX9_compared, Cond.selects RX9 yX9_compared yX9_compared, Cond.code yX9_compared cX9_compared 5 (some .int), Cond.methodLink RX9 160 yX9_sum, Cond.instanceMethod yX9_sum, Cond.selects RX9 yX9_sum yX9_sum, Cond.code yX9_factor cX9_factor 3 (some .int), Cond.methodLink RX9 126 yX9_isDigit]
def wsX9_takesAndGoes_r3 : List Cond := [Cond.static yX9_isDigit, Cond.code yX9_isDigit cX9_isDigit 1 (some .boolean), Cond.methodLink RX9 54 yX9_in, Cond.static yX9_in, Cond.code yX9_in cX9_in 3 (some .boolean), Cond.methodLink RX9 142 yX9_number, Cond.instanceMethod yX9_number, Cond.selects RX9 yX9_number yX9_number, Cond.code yX9_number cX9_number 3 (some .int), Cond.methodLink RX9 145 yX9_named, Cond.instanceMethod yX9_named, Cond.selects RX9 yX9_named yX9_named, Cond.code yX9_named cX9_named 5 (some .int), Cond.methodLink RX9 129 yX9_fails, Cond.instanceMethod yX9_fails, Cond.selects RX9 yX9_fails yX9_fails, Cond.code yX9_fails cX9_fails 1 (some .int), Cond.methodLink RX9 151 yX9_factor, Cond.instanceMethod yX9_factor, Cond.selects RX9 yX9_factor yX9_factor, Cond.code yX9_product cX9_product 4 (some .int), Cond.code yX9_sum cX9_sum 4 (some .int), Cond.methodLink RX9 157 yX9_product, Cond.instanceMethod yX9_product]
def wsX9_takesAndGoes_r4 : List Cond := [Cond.selects RX9 yX9_product yX9_product, Cond.methodLink RX9 173 yX9_held, Cond.static yX9_held, Cond.code yX9_held cX9_held 3 (some .int), Cond.methodLink RX9 68 yX9_isCell, Cond.instanceMethod yX9_isCell, Cond.selects RX9 yX9_isCell yX9_isCell, Cond.code yX9_isCell cX9_isCell 2 (some .boolean), Cond.methodLink RX9 90 yX9_gets, Cond.instanceMethod yX9_gets, Cond.selects RX9 yX9_gets yX9_gets, Cond.code yX9_gets cX9_gets 4 none]
def wsX9_takesAndGoes : List Cond := .code yX9_takesAndGoes cX9_takesAndGoes 5 none :: ((wsX9_takesAndGoes_r1 ++ (wsX9_takesAndGoes_r2 ++ (wsX9_takesAndGoes_r3 ++ wsX9_takesAndGoes_r4))) ++ wsX90)
def wsX9_oneHour_r1 : List Cond := [Cond.fieldLink RX9 7 "WheatCountsModel" "row" "[I", Cond.fieldLink RX9 29 "WheatCountsModel" "counted" "[I", Cond.fieldLink RX9 25 "WheatCountsModel" "absent" "I", Cond.constant RX9 72 (99999), Cond.methodLink RX9 73 yX9_seesOf, Cond.instanceMethod yX9_seesOf, Cond.selects RX9 yX9_seesOf yX9_seesOf, Cond.initialized RX9, Cond.code yX9_seesOf cX9_seesOf 7 (some .int), Cond.methodLink RX9 80 yX9_its, Cond.instanceMethod yX9_its, Cond.selects RX9 yX9_its yX9_its, Cond.code yX9_its cX9_its 3 (some .int), Cond.methodLink RX9 97 yX9_sight, Cond.instanceMethod yX9_sight, Cond.selects RX9 yX9_sight yX9_sight, Cond.code yX9_sight cX9_sight 3 (some .int), Cond.methodLink RX9 177 yX9_lawOf, Cond.instanceMethod yX9_lawOf, Cond.selects RX9 yX9_lawOf yX9_lawOf, Cond.code yX9_lawOf cX9_lawOf 6 (some .int), Cond.methodLink RX9 169 yX9_walks, Cond.instanceMethod yX9_walks, Cond.selects RX9 yX9_walks yX9_walks]
def wsX9_oneHour_r2 : List Cond := [Cond.code yX9_walks cX9_walks 6 (some .int), Cond.fieldLink RX9 113 "WheatCountsModel" "use" "I", Cond.fieldLink RX9 120 "WheatCountsModel" "at" "I", Cond.fieldLink RX9 110 "WheatCountsModel" "end" "I", Cond.fieldLink RX9 148 "WheatCountsModel" "open" "I", Cond.fieldLink RX9 116 "WheatCountsModel" "good" "Z", Cond.fieldLink RX9 133 "WheatCountsModel" "namedA" "I", Cond.fieldLink RX9 136 "WheatCountsModel" "namedB" "I", Cond.fieldLink RX9 139 "WheatCountsModel" "namedC" "I", Cond.methodLink RX9 154 yX9_whole, Cond.instanceMethod yX9_whole, Cond.selects RX9 yX9_whole yX9_whole, Cond.code yX9_whole cX9_whole 3 (some .int), Cond.methodLink RX9 166 yX9_both, Cond.instanceMethod yX9_both, Cond.selects RX9 yX9_both yX9_both, Cond.methodLink RX9 123 yX9_byteAt, Cond.instanceMethod yX9_byteAt, Cond.selects RX9 yX9_byteAt yX9_byteAt, Cond.code yX9_byteAt cX9_byteAt 2 (some .int), Cond.code yX9_both cX9_both 3 (some .int), Cond.methodLink RX9 163 yX9_compared, Cond.instanceMethod yX9_compared, Cond.selects RX9 yX9_compared yX9_compared]
def wsX9_oneHour_r3 : List Cond := [Cond.code yX9_compared cX9_compared 5 (some .int), Cond.methodLink RX9 160 yX9_sum, Cond.instanceMethod yX9_sum, Cond.selects RX9 yX9_sum yX9_sum, Cond.code yX9_factor cX9_factor 3 (some .int), Cond.methodLink RX9 126 yX9_isDigit, Cond.static yX9_isDigit, Cond.code yX9_isDigit cX9_isDigit 1 (some .boolean), Cond.methodLink RX9 54 yX9_in, Cond.static yX9_in, Cond.code yX9_in cX9_in 3 (some .boolean), Cond.methodLink RX9 142 yX9_number, Cond.instanceMethod yX9_number, Cond.selects RX9 yX9_number yX9_number, Cond.code yX9_number cX9_number 3 (some .int), Cond.methodLink RX9 145 yX9_named, Cond.instanceMethod yX9_named, Cond.selects RX9 yX9_named yX9_named, Cond.code yX9_named cX9_named 5 (some .int), Cond.methodLink RX9 129 yX9_fails, Cond.instanceMethod yX9_fails, Cond.selects RX9 yX9_fails yX9_fails, Cond.code yX9_fails cX9_fails 1 (some .int), Cond.methodLink RX9 151 yX9_factor]
def wsX9_oneHour_r4 : List Cond := [Cond.instanceMethod yX9_factor, Cond.selects RX9 yX9_factor yX9_factor, Cond.code yX9_product cX9_product 4 (some .int), Cond.code yX9_sum cX9_sum 4 (some .int), Cond.methodLink RX9 157 yX9_product, Cond.instanceMethod yX9_product, Cond.selects RX9 yX9_product yX9_product, Cond.methodLink RX9 173 yX9_held, Cond.static yX9_held, Cond.code yX9_held cX9_held 3 (some .int), Cond.methodLink RX9 76 yX9_has, Cond.static yX9_has, Cond.code yX9_has cX9_has 2 (some .boolean), Cond.methodLink RX9 100 yX9_counts, Cond.instanceMethod yX9_counts, Cond.selects RX9 yX9_counts yX9_counts, Cond.code yX9_counts cX9_counts 2 (some .int), Cond.methodLink RX9 186 yX9_takesAndGoes, Cond.instanceMethod yX9_takesAndGoes, Cond.selects RX9 yX9_takesAndGoes yX9_takesAndGoes, Cond.code yX9_takesAndGoes cX9_takesAndGoes 5 none, Cond.methodLink RX9 103 yX9_takes, Cond.instanceMethod yX9_takes, Cond.selects RX9 yX9_takes yX9_takes]
def wsX9_oneHour_r5 : List Cond := [Cond.code yX9_takes cX9_takes 4 (some .int), Cond.methodLink RX9 68 yX9_isCell, Cond.instanceMethod yX9_isCell, Cond.selects RX9 yX9_isCell yX9_isCell, Cond.code yX9_isCell cX9_isCell 2 (some .boolean), Cond.methodLink RX9 90 yX9_gets, Cond.instanceMethod yX9_gets, Cond.selects RX9 yX9_gets yX9_gets, Cond.code yX9_gets cX9_gets 4 none]
def wsX9_oneHour : List Cond := .code yX9_oneHour cX9_oneHour 4 none :: ((wsX9_oneHour_r1 ++ (wsX9_oneHour_r2 ++ (wsX9_oneHour_r3 ++ (wsX9_oneHour_r4 ++ wsX9_oneHour_r5)))) ++ wsX90)
def wsX9_passes_r1 : List Cond := [Cond.methodLink RX9 190 yX9_oneHour, Cond.instanceMethod yX9_oneHour, Cond.selects RX9 yX9_oneHour yX9_oneHour, Cond.initialized RX9, Cond.code yX9_oneHour cX9_oneHour 4 none, Cond.fieldLink RX9 7 "WheatCountsModel" "row" "[I", Cond.fieldLink RX9 29 "WheatCountsModel" "counted" "[I", Cond.fieldLink RX9 25 "WheatCountsModel" "absent" "I", Cond.constant RX9 72 (99999), Cond.methodLink RX9 73 yX9_seesOf, Cond.instanceMethod yX9_seesOf, Cond.selects RX9 yX9_seesOf yX9_seesOf, Cond.code yX9_seesOf cX9_seesOf 7 (some .int), Cond.methodLink RX9 80 yX9_its, Cond.instanceMethod yX9_its, Cond.selects RX9 yX9_its yX9_its, Cond.code yX9_its cX9_its 3 (some .int), Cond.methodLink RX9 97 yX9_sight, Cond.instanceMethod yX9_sight, Cond.selects RX9 yX9_sight yX9_sight, Cond.code yX9_sight cX9_sight 3 (some .int), Cond.methodLink RX9 177 yX9_lawOf, Cond.instanceMethod yX9_lawOf, Cond.selects RX9 yX9_lawOf yX9_lawOf]
def wsX9_passes_r2 : List Cond := [Cond.code yX9_lawOf cX9_lawOf 6 (some .int), Cond.methodLink RX9 169 yX9_walks, Cond.instanceMethod yX9_walks, Cond.selects RX9 yX9_walks yX9_walks, Cond.code yX9_walks cX9_walks 6 (some .int), Cond.fieldLink RX9 113 "WheatCountsModel" "use" "I", Cond.fieldLink RX9 120 "WheatCountsModel" "at" "I", Cond.fieldLink RX9 110 "WheatCountsModel" "end" "I", Cond.fieldLink RX9 148 "WheatCountsModel" "open" "I", Cond.fieldLink RX9 116 "WheatCountsModel" "good" "Z", Cond.fieldLink RX9 133 "WheatCountsModel" "namedA" "I", Cond.fieldLink RX9 136 "WheatCountsModel" "namedB" "I", Cond.fieldLink RX9 139 "WheatCountsModel" "namedC" "I", Cond.methodLink RX9 154 yX9_whole, Cond.instanceMethod yX9_whole, Cond.selects RX9 yX9_whole yX9_whole, Cond.code yX9_whole cX9_whole 3 (some .int), Cond.methodLink RX9 166 yX9_both, Cond.instanceMethod yX9_both, Cond.selects RX9 yX9_both yX9_both, Cond.methodLink RX9 123 yX9_byteAt, Cond.instanceMethod yX9_byteAt, Cond.selects RX9 yX9_byteAt yX9_byteAt, Cond.code yX9_byteAt cX9_byteAt 2 (some .int)]
def wsX9_passes_r3 : List Cond := [Cond.code yX9_both cX9_both 3 (some .int), Cond.methodLink RX9 163 yX9_compared, Cond.instanceMethod yX9_compared, Cond.selects RX9 yX9_compared yX9_compared, Cond.code yX9_compared cX9_compared 5 (some .int), Cond.methodLink RX9 160 yX9_sum, Cond.instanceMethod yX9_sum, Cond.selects RX9 yX9_sum yX9_sum, Cond.code yX9_factor cX9_factor 3 (some .int), Cond.methodLink RX9 126 yX9_isDigit, Cond.static yX9_isDigit, Cond.code yX9_isDigit cX9_isDigit 1 (some .boolean), Cond.methodLink RX9 54 yX9_in, Cond.static yX9_in, Cond.code yX9_in cX9_in 3 (some .boolean), Cond.methodLink RX9 142 yX9_number, Cond.instanceMethod yX9_number, Cond.selects RX9 yX9_number yX9_number, Cond.code yX9_number cX9_number 3 (some .int), Cond.methodLink RX9 145 yX9_named, Cond.instanceMethod yX9_named, Cond.selects RX9 yX9_named yX9_named, Cond.code yX9_named cX9_named 5 (some .int), Cond.methodLink RX9 129 yX9_fails]
def wsX9_passes_r4 : List Cond := [Cond.instanceMethod yX9_fails, Cond.selects RX9 yX9_fails yX9_fails, Cond.code yX9_fails cX9_fails 1 (some .int), Cond.methodLink RX9 151 yX9_factor, Cond.instanceMethod yX9_factor, Cond.selects RX9 yX9_factor yX9_factor, Cond.code yX9_product cX9_product 4 (some .int), Cond.code yX9_sum cX9_sum 4 (some .int), Cond.methodLink RX9 157 yX9_product, Cond.instanceMethod yX9_product, Cond.selects RX9 yX9_product yX9_product, Cond.methodLink RX9 173 yX9_held, Cond.static yX9_held, Cond.code yX9_held cX9_held 3 (some .int), Cond.methodLink RX9 76 yX9_has, Cond.static yX9_has, Cond.code yX9_has cX9_has 2 (some .boolean), Cond.methodLink RX9 100 yX9_counts, Cond.instanceMethod yX9_counts, Cond.selects RX9 yX9_counts yX9_counts, Cond.code yX9_counts cX9_counts 2 (some .int), Cond.methodLink RX9 186 yX9_takesAndGoes, Cond.instanceMethod yX9_takesAndGoes, Cond.selects RX9 yX9_takesAndGoes yX9_takesAndGoes]
def wsX9_passes_r5 : List Cond := [Cond.code yX9_takesAndGoes cX9_takesAndGoes 5 none, Cond.methodLink RX9 103 yX9_takes, Cond.instanceMethod yX9_takes, Cond.selects RX9 yX9_takes yX9_takes, Cond.code yX9_takes cX9_takes 4 (some .int), Cond.methodLink RX9 68 yX9_isCell, Cond.instanceMethod yX9_isCell, Cond.selects RX9 yX9_isCell yX9_isCell, Cond.code yX9_isCell cX9_isCell 2 (some .boolean), Cond.methodLink RX9 90 yX9_gets, Cond.instanceMethod yX9_gets, Cond.selects RX9 yX9_gets yX9_gets, Cond.code yX9_gets cX9_gets 4 none]
def wsX9_passes : List Cond := .code yX9_passes cX9_passes 3 none :: ((wsX9_passes_r1 ++ (wsX9_passes_r2 ++ (wsX9_passes_r3 ++ (wsX9_passes_r4 ++ wsX9_passes_r5)))) ++ wsX90)
def wsX9_grains : List Cond := .code yX9_grains cX9_grains 3 (some .int) :: ([.fieldLink RX9 7 "WheatCountsModel" "row" "[I"] ++ wsX90)
def wsX9_hours_r1 : List Cond := [Cond.constant RX9 58 (-1000000001), Cond.fieldLink RX9 7 "WheatCountsModel" "row" "[I", Cond.constant RX9 63 (-1000000003), Cond.methodLink RX9 54 yX9_in, Cond.static yX9_in, Cond.initialized RX9, Cond.code yX9_in cX9_in 3 (some .boolean), Cond.methodLink RX9 59 yX9_errs, Cond.instanceMethod yX9_errs, Cond.selects RX9 yX9_errs yX9_errs, Cond.code yX9_errs cX9_errs 2 (some .int), Cond.fieldLink RX9 22 "WheatCountsModel" "found" "[I", Cond.constant RX9 53 (-1000000000), Cond.methodLink RX9 193 yX9_passes, Cond.instanceMethod yX9_passes, Cond.selects RX9 yX9_passes yX9_passes, Cond.code yX9_passes cX9_passes 3 none, Cond.methodLink RX9 190 yX9_oneHour, Cond.instanceMethod yX9_oneHour, Cond.selects RX9 yX9_oneHour yX9_oneHour, Cond.code yX9_oneHour cX9_oneHour 4 none, Cond.fieldLink RX9 29 "WheatCountsModel" "counted" "[I", Cond.fieldLink RX9 25 "WheatCountsModel" "absent" "I", Cond.constant RX9 72 (99999)]
def wsX9_hours_r2 : List Cond := [Cond.methodLink RX9 73 yX9_seesOf, Cond.instanceMethod yX9_seesOf, Cond.selects RX9 yX9_seesOf yX9_seesOf, Cond.code yX9_seesOf cX9_seesOf 7 (some .int), Cond.methodLink RX9 80 yX9_its, Cond.instanceMethod yX9_its, Cond.selects RX9 yX9_its yX9_its, Cond.code yX9_its cX9_its 3 (some .int), Cond.methodLink RX9 97 yX9_sight, Cond.instanceMethod yX9_sight, Cond.selects RX9 yX9_sight yX9_sight, Cond.code yX9_sight cX9_sight 3 (some .int), Cond.methodLink RX9 177 yX9_lawOf, Cond.instanceMethod yX9_lawOf, Cond.selects RX9 yX9_lawOf yX9_lawOf, Cond.code yX9_lawOf cX9_lawOf 6 (some .int), Cond.methodLink RX9 169 yX9_walks, Cond.instanceMethod yX9_walks, Cond.selects RX9 yX9_walks yX9_walks, Cond.code yX9_walks cX9_walks 6 (some .int), Cond.fieldLink RX9 113 "WheatCountsModel" "use" "I", Cond.fieldLink RX9 120 "WheatCountsModel" "at" "I", Cond.fieldLink RX9 110 "WheatCountsModel" "end" "I", Cond.fieldLink RX9 148 "WheatCountsModel" "open" "I"]
def wsX9_hours_r3 : List Cond := [Cond.fieldLink RX9 116 "WheatCountsModel" "good" "Z", Cond.fieldLink RX9 133 "WheatCountsModel" "namedA" "I", Cond.fieldLink RX9 136 "WheatCountsModel" "namedB" "I", Cond.fieldLink RX9 139 "WheatCountsModel" "namedC" "I", Cond.methodLink RX9 154 yX9_whole, Cond.instanceMethod yX9_whole, Cond.selects RX9 yX9_whole yX9_whole, Cond.code yX9_whole cX9_whole 3 (some .int), Cond.methodLink RX9 166 yX9_both, Cond.instanceMethod yX9_both, Cond.selects RX9 yX9_both yX9_both, Cond.methodLink RX9 123 yX9_byteAt, Cond.instanceMethod yX9_byteAt, Cond.selects RX9 yX9_byteAt yX9_byteAt, Cond.code yX9_byteAt cX9_byteAt 2 (some .int), Cond.code yX9_both cX9_both 3 (some .int), Cond.methodLink RX9 163 yX9_compared, Cond.instanceMethod yX9_compared, Cond.selects RX9 yX9_compared yX9_compared, Cond.code yX9_compared cX9_compared 5 (some .int), Cond.methodLink RX9 160 yX9_sum, Cond.instanceMethod yX9_sum, Cond.selects RX9 yX9_sum yX9_sum, Cond.code yX9_factor cX9_factor 3 (some .int)]
def wsX9_hours_r4 : List Cond := [Cond.methodLink RX9 126 yX9_isDigit, Cond.static yX9_isDigit, Cond.code yX9_isDigit cX9_isDigit 1 (some .boolean), Cond.methodLink RX9 142 yX9_number, Cond.instanceMethod yX9_number, Cond.selects RX9 yX9_number yX9_number, Cond.code yX9_number cX9_number 3 (some .int), Cond.methodLink RX9 145 yX9_named, Cond.instanceMethod yX9_named, Cond.selects RX9 yX9_named yX9_named, Cond.code yX9_named cX9_named 5 (some .int), Cond.methodLink RX9 129 yX9_fails, Cond.instanceMethod yX9_fails, Cond.selects RX9 yX9_fails yX9_fails, Cond.code yX9_fails cX9_fails 1 (some .int), Cond.methodLink RX9 151 yX9_factor, Cond.instanceMethod yX9_factor, Cond.selects RX9 yX9_factor yX9_factor, Cond.code yX9_product cX9_product 4 (some .int), Cond.code yX9_sum cX9_sum 4 (some .int), Cond.methodLink RX9 157 yX9_product, Cond.instanceMethod yX9_product, Cond.selects RX9 yX9_product yX9_product, Cond.methodLink RX9 173 yX9_held]
def wsX9_hours_r5 : List Cond := [Cond.static yX9_held, Cond.code yX9_held cX9_held 3 (some .int), Cond.methodLink RX9 76 yX9_has, Cond.static yX9_has, Cond.code yX9_has cX9_has 2 (some .boolean), Cond.methodLink RX9 100 yX9_counts, Cond.instanceMethod yX9_counts, Cond.selects RX9 yX9_counts yX9_counts, Cond.code yX9_counts cX9_counts 2 (some .int), Cond.methodLink RX9 186 yX9_takesAndGoes, Cond.instanceMethod yX9_takesAndGoes, Cond.selects RX9 yX9_takesAndGoes yX9_takesAndGoes, Cond.code yX9_takesAndGoes cX9_takesAndGoes 5 none, Cond.methodLink RX9 103 yX9_takes, Cond.instanceMethod yX9_takes, Cond.selects RX9 yX9_takes yX9_takes, Cond.code yX9_takes cX9_takes 4 (some .int), Cond.methodLink RX9 68 yX9_isCell, Cond.instanceMethod yX9_isCell, Cond.selects RX9 yX9_isCell yX9_isCell, Cond.code yX9_isCell cX9_isCell 2 (some .boolean), Cond.methodLink RX9 90 yX9_gets, Cond.instanceMethod yX9_gets, Cond.selects RX9 yX9_gets yX9_gets]
def wsX9_hours_r6 : List Cond := [Cond.code yX9_gets cX9_gets 4 none, Cond.methodLink RX9 196 yX9_grains, Cond.instanceMethod yX9_grains, Cond.selects RX9 yX9_grains yX9_grains, Cond.code yX9_grains cX9_grains 3 (some .int)]
def wsX9_hours : List Cond := .code yX9_hours cX9_hours 2 (some .int) :: ((wsX9_hours_r1 ++ (wsX9_hours_r2 ++ (wsX9_hours_r3 ++ (wsX9_hours_r4 ++ (wsX9_hours_r5 ++ wsX9_hours_r6))))) ++ wsX90)
def wsX9_drawn : List Cond := .code yX9_drawn cX9_drawn 2 (some .int) :: ([.fieldLink RX9 7 "WheatCountsModel" "row" "[I", .constant RX9 199 (1103515245)] ++ wsX90)
def wsX9_loose_r1 : List Cond := [Cond.constant RX9 58 (-1000000001), Cond.fieldLink RX9 7 "WheatCountsModel" "row" "[I", Cond.constant RX9 63 (-1000000003), Cond.methodLink RX9 54 yX9_in, Cond.static yX9_in, Cond.initialized RX9, Cond.code yX9_in cX9_in 3 (some .boolean), Cond.methodLink RX9 59 yX9_errs, Cond.instanceMethod yX9_errs, Cond.selects RX9 yX9_errs yX9_errs, Cond.code yX9_errs cX9_errs 2 (some .int), Cond.fieldLink RX9 22 "WheatCountsModel" "found" "[I", Cond.constant RX9 53 (-1000000000), Cond.methodLink RX9 200 yX9_drawn, Cond.instanceMethod yX9_drawn, Cond.selects RX9 yX9_drawn yX9_drawn, Cond.code yX9_drawn cX9_drawn 2 (some .int), Cond.constant RX9 199 (1103515245), Cond.methodLink RX9 90 yX9_gets, Cond.instanceMethod yX9_gets, Cond.selects RX9 yX9_gets yX9_gets, Cond.code yX9_gets cX9_gets 4 none, Cond.methodLink RX9 190 yX9_oneHour, Cond.instanceMethod yX9_oneHour]
def wsX9_loose_r2 : List Cond := [Cond.selects RX9 yX9_oneHour yX9_oneHour, Cond.code yX9_oneHour cX9_oneHour 4 none, Cond.fieldLink RX9 29 "WheatCountsModel" "counted" "[I", Cond.fieldLink RX9 25 "WheatCountsModel" "absent" "I", Cond.constant RX9 72 (99999), Cond.methodLink RX9 73 yX9_seesOf, Cond.instanceMethod yX9_seesOf, Cond.selects RX9 yX9_seesOf yX9_seesOf, Cond.code yX9_seesOf cX9_seesOf 7 (some .int), Cond.methodLink RX9 80 yX9_its, Cond.instanceMethod yX9_its, Cond.selects RX9 yX9_its yX9_its, Cond.code yX9_its cX9_its 3 (some .int), Cond.methodLink RX9 97 yX9_sight, Cond.instanceMethod yX9_sight, Cond.selects RX9 yX9_sight yX9_sight, Cond.code yX9_sight cX9_sight 3 (some .int), Cond.methodLink RX9 177 yX9_lawOf, Cond.instanceMethod yX9_lawOf, Cond.selects RX9 yX9_lawOf yX9_lawOf, Cond.code yX9_lawOf cX9_lawOf 6 (some .int), Cond.methodLink RX9 169 yX9_walks, Cond.instanceMethod yX9_walks, Cond.selects RX9 yX9_walks yX9_walks]
def wsX9_loose_r3 : List Cond := [Cond.code yX9_walks cX9_walks 6 (some .int), Cond.fieldLink RX9 113 "WheatCountsModel" "use" "I", Cond.fieldLink RX9 120 "WheatCountsModel" "at" "I", Cond.fieldLink RX9 110 "WheatCountsModel" "end" "I", Cond.fieldLink RX9 148 "WheatCountsModel" "open" "I", Cond.fieldLink RX9 116 "WheatCountsModel" "good" "Z", Cond.fieldLink RX9 133 "WheatCountsModel" "namedA" "I", Cond.fieldLink RX9 136 "WheatCountsModel" "namedB" "I", Cond.fieldLink RX9 139 "WheatCountsModel" "namedC" "I", Cond.methodLink RX9 154 yX9_whole, Cond.instanceMethod yX9_whole, Cond.selects RX9 yX9_whole yX9_whole, Cond.code yX9_whole cX9_whole 3 (some .int), Cond.methodLink RX9 166 yX9_both, Cond.instanceMethod yX9_both, Cond.selects RX9 yX9_both yX9_both, Cond.methodLink RX9 123 yX9_byteAt, Cond.instanceMethod yX9_byteAt, Cond.selects RX9 yX9_byteAt yX9_byteAt, Cond.code yX9_byteAt cX9_byteAt 2 (some .int), Cond.code yX9_both cX9_both 3 (some .int), Cond.methodLink RX9 163 yX9_compared, Cond.instanceMethod yX9_compared, Cond.selects RX9 yX9_compared yX9_compared]
def wsX9_loose_r4 : List Cond := [Cond.code yX9_compared cX9_compared 5 (some .int), Cond.methodLink RX9 160 yX9_sum, Cond.instanceMethod yX9_sum, Cond.selects RX9 yX9_sum yX9_sum, Cond.code yX9_factor cX9_factor 3 (some .int), Cond.methodLink RX9 126 yX9_isDigit, Cond.static yX9_isDigit, Cond.code yX9_isDigit cX9_isDigit 1 (some .boolean), Cond.methodLink RX9 142 yX9_number, Cond.instanceMethod yX9_number, Cond.selects RX9 yX9_number yX9_number, Cond.code yX9_number cX9_number 3 (some .int), Cond.methodLink RX9 145 yX9_named, Cond.instanceMethod yX9_named, Cond.selects RX9 yX9_named yX9_named, Cond.code yX9_named cX9_named 5 (some .int), Cond.methodLink RX9 129 yX9_fails, Cond.instanceMethod yX9_fails, Cond.selects RX9 yX9_fails yX9_fails, Cond.code yX9_fails cX9_fails 1 (some .int), Cond.methodLink RX9 151 yX9_factor, Cond.instanceMethod yX9_factor, Cond.selects RX9 yX9_factor yX9_factor, Cond.code yX9_product cX9_product 4 (some .int)]
def wsX9_loose_r5 : List Cond := [Cond.code yX9_sum cX9_sum 4 (some .int), Cond.methodLink RX9 157 yX9_product, Cond.instanceMethod yX9_product, Cond.selects RX9 yX9_product yX9_product, Cond.methodLink RX9 173 yX9_held, Cond.static yX9_held, Cond.code yX9_held cX9_held 3 (some .int), Cond.methodLink RX9 76 yX9_has, Cond.static yX9_has, Cond.code yX9_has cX9_has 2 (some .boolean), Cond.methodLink RX9 100 yX9_counts, Cond.instanceMethod yX9_counts, Cond.selects RX9 yX9_counts yX9_counts, Cond.code yX9_counts cX9_counts 2 (some .int), Cond.methodLink RX9 186 yX9_takesAndGoes, Cond.instanceMethod yX9_takesAndGoes, Cond.selects RX9 yX9_takesAndGoes yX9_takesAndGoes, Cond.code yX9_takesAndGoes cX9_takesAndGoes 5 none, Cond.methodLink RX9 103 yX9_takes, Cond.instanceMethod yX9_takes, Cond.selects RX9 yX9_takes yX9_takes, Cond.code yX9_takes cX9_takes 4 (some .int), Cond.methodLink RX9 68 yX9_isCell, Cond.instanceMethod yX9_isCell]
def wsX9_loose_r6 : List Cond := [Cond.selects RX9 yX9_isCell yX9_isCell, Cond.code yX9_isCell cX9_isCell 2 (some .boolean), Cond.methodLink RX9 196 yX9_grains, Cond.instanceMethod yX9_grains, Cond.selects RX9 yX9_grains yX9_grains, Cond.code yX9_grains cX9_grains 3 (some .int)]
def wsX9_loose : List Cond := .code yX9_loose cX9_loose 4 (some .int) :: ((wsX9_loose_r1 ++ (wsX9_loose_r2 ++ (wsX9_loose_r3 ++ (wsX9_loose_r4 ++ (wsX9_loose_r5 ++ wsX9_loose_r6))))) ++ wsX90)
def wsX9_evening : List Cond := .code yX9_evening cX9_evening 3 (some .int) :: ([.fieldLink RX9 7 "WheatCountsModel" "row" "[I", .constant RX9 72 (99999), .methodLink RX9 76 yX9_has, .static yX9_has, .initialized RX9, .code yX9_has cX9_has 2 (some .boolean), .methodLink RX9 173 yX9_held, .static yX9_held, .code yX9_held cX9_held 3 (some .int), .methodLink RX9 196 yX9_grains, .instanceMethod yX9_grains, .selects RX9 yX9_grains yX9_grains, .code yX9_grains cX9_grains 3 (some .int)] ++ wsX90)
def wsX9_hail : List Cond := .code yX9_hail cX9_hail 3 (some .int) :: ([.constant RX9 58 (-1000000001), .fieldLink RX9 7 "WheatCountsModel" "row" "[I", .methodLink RX9 54 yX9_in, .static yX9_in, .initialized RX9, .code yX9_in cX9_in 3 (some .boolean), .methodLink RX9 59 yX9_errs, .instanceMethod yX9_errs, .selects RX9 yX9_errs yX9_errs, .code yX9_errs cX9_errs 2 (some .int), .fieldLink RX9 22 "WheatCountsModel" "found" "[I", .constant RX9 53 (-1000000000), .methodLink RX9 196 yX9_grains, .instanceMethod yX9_grains, .selects RX9 yX9_grains yX9_grains, .code yX9_grains cX9_grains 3 (some .int)] ++ wsX90)
def wsX9_then_r1 : List Cond := [Cond.fieldLink RX9 7 "WheatCountsModel" "row" "[I", Cond.constant RX9 58 (-1000000001), Cond.fieldLink RX9 16 "WheatCountsModel" "tried" "[I", Cond.methodLink RX9 54 yX9_in, Cond.static yX9_in, Cond.initialized RX9, Cond.code yX9_in cX9_in 3 (some .boolean), Cond.methodLink RX9 59 yX9_errs, Cond.instanceMethod yX9_errs, Cond.selects RX9 yX9_errs yX9_errs, Cond.code yX9_errs cX9_errs 2 (some .int), Cond.fieldLink RX9 22 "WheatCountsModel" "found" "[I", Cond.constant RX9 53 (-1000000000), Cond.methodLink RX9 182 yX9_moveAll, Cond.instanceMethod yX9_moveAll, Cond.selects RX9 yX9_moveAll yX9_moveAll, Cond.code yX9_moveAll cX9_moveAll 4 none, Cond.methodLink RX9 193 yX9_passes, Cond.instanceMethod yX9_passes, Cond.selects RX9 yX9_passes yX9_passes, Cond.code yX9_passes cX9_passes 3 none, Cond.methodLink RX9 190 yX9_oneHour, Cond.instanceMethod yX9_oneHour, Cond.selects RX9 yX9_oneHour yX9_oneHour]
def wsX9_then_r2 : List Cond := [Cond.code yX9_oneHour cX9_oneHour 4 none, Cond.fieldLink RX9 29 "WheatCountsModel" "counted" "[I", Cond.fieldLink RX9 25 "WheatCountsModel" "absent" "I", Cond.constant RX9 72 (99999), Cond.methodLink RX9 73 yX9_seesOf, Cond.instanceMethod yX9_seesOf, Cond.selects RX9 yX9_seesOf yX9_seesOf, Cond.code yX9_seesOf cX9_seesOf 7 (some .int), Cond.methodLink RX9 80 yX9_its, Cond.instanceMethod yX9_its, Cond.selects RX9 yX9_its yX9_its, Cond.code yX9_its cX9_its 3 (some .int), Cond.methodLink RX9 97 yX9_sight, Cond.instanceMethod yX9_sight, Cond.selects RX9 yX9_sight yX9_sight, Cond.code yX9_sight cX9_sight 3 (some .int), Cond.methodLink RX9 177 yX9_lawOf, Cond.instanceMethod yX9_lawOf, Cond.selects RX9 yX9_lawOf yX9_lawOf, Cond.code yX9_lawOf cX9_lawOf 6 (some .int), Cond.methodLink RX9 169 yX9_walks, Cond.instanceMethod yX9_walks, Cond.selects RX9 yX9_walks yX9_walks, Cond.code yX9_walks cX9_walks 6 (some .int)]
def wsX9_then_r3 : List Cond := [Cond.fieldLink RX9 113 "WheatCountsModel" "use" "I", Cond.fieldLink RX9 120 "WheatCountsModel" "at" "I", Cond.fieldLink RX9 110 "WheatCountsModel" "end" "I", Cond.fieldLink RX9 148 "WheatCountsModel" "open" "I", Cond.fieldLink RX9 116 "WheatCountsModel" "good" "Z", Cond.fieldLink RX9 133 "WheatCountsModel" "namedA" "I", Cond.fieldLink RX9 136 "WheatCountsModel" "namedB" "I", Cond.fieldLink RX9 139 "WheatCountsModel" "namedC" "I", Cond.methodLink RX9 154 yX9_whole, Cond.instanceMethod yX9_whole, Cond.selects RX9 yX9_whole yX9_whole, Cond.code yX9_whole cX9_whole 3 (some .int), Cond.methodLink RX9 166 yX9_both, Cond.instanceMethod yX9_both, Cond.selects RX9 yX9_both yX9_both, Cond.methodLink RX9 123 yX9_byteAt, Cond.instanceMethod yX9_byteAt, Cond.selects RX9 yX9_byteAt yX9_byteAt, Cond.code yX9_byteAt cX9_byteAt 2 (some .int), Cond.code yX9_both cX9_both 3 (some .int), Cond.methodLink RX9 163 yX9_compared, Cond.instanceMethod yX9_compared, Cond.selects RX9 yX9_compared yX9_compared, Cond.code yX9_compared cX9_compared 5 (some .int)]
def wsX9_then_r4 : List Cond := [Cond.methodLink RX9 160 yX9_sum, Cond.instanceMethod yX9_sum, Cond.selects RX9 yX9_sum yX9_sum, Cond.code yX9_factor cX9_factor 3 (some .int), Cond.methodLink RX9 126 yX9_isDigit, Cond.static yX9_isDigit, Cond.code yX9_isDigit cX9_isDigit 1 (some .boolean), Cond.methodLink RX9 142 yX9_number, Cond.instanceMethod yX9_number, Cond.selects RX9 yX9_number yX9_number, Cond.code yX9_number cX9_number 3 (some .int), Cond.methodLink RX9 145 yX9_named, Cond.instanceMethod yX9_named, Cond.selects RX9 yX9_named yX9_named, Cond.code yX9_named cX9_named 5 (some .int), Cond.methodLink RX9 129 yX9_fails, Cond.instanceMethod yX9_fails, Cond.selects RX9 yX9_fails yX9_fails, Cond.code yX9_fails cX9_fails 1 (some .int), Cond.methodLink RX9 151 yX9_factor, Cond.instanceMethod yX9_factor, Cond.selects RX9 yX9_factor yX9_factor, Cond.code yX9_product cX9_product 4 (some .int), Cond.code yX9_sum cX9_sum 4 (some .int)]
def wsX9_then_r5 : List Cond := [Cond.methodLink RX9 157 yX9_product, Cond.instanceMethod yX9_product, Cond.selects RX9 yX9_product yX9_product, Cond.methodLink RX9 173 yX9_held, Cond.static yX9_held, Cond.code yX9_held cX9_held 3 (some .int), Cond.methodLink RX9 76 yX9_has, Cond.static yX9_has, Cond.code yX9_has cX9_has 2 (some .boolean), Cond.methodLink RX9 100 yX9_counts, Cond.instanceMethod yX9_counts, Cond.selects RX9 yX9_counts yX9_counts, Cond.code yX9_counts cX9_counts 2 (some .int), Cond.methodLink RX9 186 yX9_takesAndGoes, Cond.instanceMethod yX9_takesAndGoes, Cond.selects RX9 yX9_takesAndGoes yX9_takesAndGoes, Cond.code yX9_takesAndGoes cX9_takesAndGoes 5 none, Cond.methodLink RX9 103 yX9_takes, Cond.instanceMethod yX9_takes, Cond.selects RX9 yX9_takes yX9_takes, Cond.code yX9_takes cX9_takes 4 (some .int), Cond.methodLink RX9 68 yX9_isCell, Cond.instanceMethod yX9_isCell, Cond.selects RX9 yX9_isCell yX9_isCell]
def wsX9_then_r6 : List Cond := [Cond.code yX9_isCell cX9_isCell 2 (some .boolean), Cond.methodLink RX9 90 yX9_gets, Cond.instanceMethod yX9_gets, Cond.selects RX9 yX9_gets yX9_gets, Cond.code yX9_gets cX9_gets 4 none]
def wsX9_then : List Cond := .code yX9_then cX9_then 4 (some .int) :: ((wsX9_then_r1 ++ (wsX9_then_r2 ++ (wsX9_then_r3 ++ (wsX9_then_r4 ++ (wsX9_then_r5 ++ wsX9_then_r6))))) ++ wsX90)
def wsX9_full_r1 : List Cond := [Cond.constant RX9 203 (999999), Cond.constant RX9 58 (-1000000001), Cond.fieldLink RX9 7 "WheatCountsModel" "row" "[I", Cond.fieldLink RX9 16 "WheatCountsModel" "tried" "[I", Cond.constant RX9 204 (-1000000002), Cond.methodLink RX9 54 yX9_in, Cond.static yX9_in, Cond.initialized RX9, Cond.code yX9_in cX9_in 3 (some .boolean), Cond.methodLink RX9 59 yX9_errs, Cond.instanceMethod yX9_errs, Cond.selects RX9 yX9_errs yX9_errs, Cond.code yX9_errs cX9_errs 2 (some .int), Cond.fieldLink RX9 22 "WheatCountsModel" "found" "[I", Cond.constant RX9 53 (-1000000000), Cond.methodLink RX9 182 yX9_moveAll, Cond.instanceMethod yX9_moveAll, Cond.selects RX9 yX9_moveAll yX9_moveAll, Cond.code yX9_moveAll cX9_moveAll 4 none, Cond.methodLink RX9 196 yX9_grains, Cond.instanceMethod yX9_grains, Cond.selects RX9 yX9_grains yX9_grains, Cond.code yX9_grains cX9_grains 3 (some .int), Cond.methodLink RX9 190 yX9_oneHour]
def wsX9_full_r2 : List Cond := [Cond.instanceMethod yX9_oneHour, Cond.selects RX9 yX9_oneHour yX9_oneHour, Cond.code yX9_oneHour cX9_oneHour 4 none, Cond.fieldLink RX9 29 "WheatCountsModel" "counted" "[I", Cond.fieldLink RX9 25 "WheatCountsModel" "absent" "I", Cond.constant RX9 72 (99999), Cond.methodLink RX9 73 yX9_seesOf, Cond.instanceMethod yX9_seesOf, Cond.selects RX9 yX9_seesOf yX9_seesOf, Cond.code yX9_seesOf cX9_seesOf 7 (some .int), Cond.methodLink RX9 80 yX9_its, Cond.instanceMethod yX9_its, Cond.selects RX9 yX9_its yX9_its, Cond.code yX9_its cX9_its 3 (some .int), Cond.methodLink RX9 97 yX9_sight, Cond.instanceMethod yX9_sight, Cond.selects RX9 yX9_sight yX9_sight, Cond.code yX9_sight cX9_sight 3 (some .int), Cond.methodLink RX9 177 yX9_lawOf, Cond.instanceMethod yX9_lawOf, Cond.selects RX9 yX9_lawOf yX9_lawOf, Cond.code yX9_lawOf cX9_lawOf 6 (some .int), Cond.methodLink RX9 169 yX9_walks, Cond.instanceMethod yX9_walks]
def wsX9_full_r3 : List Cond := [Cond.selects RX9 yX9_walks yX9_walks, Cond.code yX9_walks cX9_walks 6 (some .int), Cond.fieldLink RX9 113 "WheatCountsModel" "use" "I", Cond.fieldLink RX9 120 "WheatCountsModel" "at" "I", Cond.fieldLink RX9 110 "WheatCountsModel" "end" "I", Cond.fieldLink RX9 148 "WheatCountsModel" "open" "I", Cond.fieldLink RX9 116 "WheatCountsModel" "good" "Z", Cond.fieldLink RX9 133 "WheatCountsModel" "namedA" "I", Cond.fieldLink RX9 136 "WheatCountsModel" "namedB" "I", Cond.fieldLink RX9 139 "WheatCountsModel" "namedC" "I", Cond.methodLink RX9 154 yX9_whole, Cond.instanceMethod yX9_whole, Cond.selects RX9 yX9_whole yX9_whole, Cond.code yX9_whole cX9_whole 3 (some .int), Cond.methodLink RX9 166 yX9_both, Cond.instanceMethod yX9_both, Cond.selects RX9 yX9_both yX9_both, Cond.methodLink RX9 123 yX9_byteAt, Cond.instanceMethod yX9_byteAt, Cond.selects RX9 yX9_byteAt yX9_byteAt, Cond.code yX9_byteAt cX9_byteAt 2 (some .int), Cond.code yX9_both cX9_both 3 (some .int), Cond.methodLink RX9 163 yX9_compared, Cond.instanceMethod yX9_compared]
def wsX9_full_r4 : List Cond := [Cond.selects RX9 yX9_compared yX9_compared, Cond.code yX9_compared cX9_compared 5 (some .int), Cond.methodLink RX9 160 yX9_sum, Cond.instanceMethod yX9_sum, Cond.selects RX9 yX9_sum yX9_sum, Cond.code yX9_factor cX9_factor 3 (some .int), Cond.methodLink RX9 126 yX9_isDigit, Cond.static yX9_isDigit, Cond.code yX9_isDigit cX9_isDigit 1 (some .boolean), Cond.methodLink RX9 142 yX9_number, Cond.instanceMethod yX9_number, Cond.selects RX9 yX9_number yX9_number, Cond.code yX9_number cX9_number 3 (some .int), Cond.methodLink RX9 145 yX9_named, Cond.instanceMethod yX9_named, Cond.selects RX9 yX9_named yX9_named, Cond.code yX9_named cX9_named 5 (some .int), Cond.methodLink RX9 129 yX9_fails, Cond.instanceMethod yX9_fails, Cond.selects RX9 yX9_fails yX9_fails, Cond.code yX9_fails cX9_fails 1 (some .int), Cond.methodLink RX9 151 yX9_factor, Cond.instanceMethod yX9_factor, Cond.selects RX9 yX9_factor yX9_factor]
def wsX9_full_r5 : List Cond := [Cond.code yX9_product cX9_product 4 (some .int), Cond.code yX9_sum cX9_sum 4 (some .int), Cond.methodLink RX9 157 yX9_product, Cond.instanceMethod yX9_product, Cond.selects RX9 yX9_product yX9_product, Cond.methodLink RX9 173 yX9_held, Cond.static yX9_held, Cond.code yX9_held cX9_held 3 (some .int), Cond.methodLink RX9 76 yX9_has, Cond.static yX9_has, Cond.code yX9_has cX9_has 2 (some .boolean), Cond.methodLink RX9 100 yX9_counts, Cond.instanceMethod yX9_counts, Cond.selects RX9 yX9_counts yX9_counts, Cond.code yX9_counts cX9_counts 2 (some .int), Cond.methodLink RX9 186 yX9_takesAndGoes, Cond.instanceMethod yX9_takesAndGoes, Cond.selects RX9 yX9_takesAndGoes yX9_takesAndGoes, Cond.code yX9_takesAndGoes cX9_takesAndGoes 5 none, Cond.methodLink RX9 103 yX9_takes, Cond.instanceMethod yX9_takes, Cond.selects RX9 yX9_takes yX9_takes, Cond.code yX9_takes cX9_takes 4 (some .int), Cond.methodLink RX9 68 yX9_isCell]
def wsX9_full_r6 : List Cond := [Cond.instanceMethod yX9_isCell, Cond.selects RX9 yX9_isCell yX9_isCell, Cond.code yX9_isCell cX9_isCell 2 (some .boolean), Cond.methodLink RX9 90 yX9_gets, Cond.instanceMethod yX9_gets, Cond.selects RX9 yX9_gets yX9_gets, Cond.code yX9_gets cX9_gets 4 none]
def wsX9_full : List Cond := .code yX9_full cX9_full 3 (some .int) :: ((wsX9_full_r1 ++ (wsX9_full_r2 ++ (wsX9_full_r3 ++ (wsX9_full_r4 ++ (wsX9_full_r5 ++ wsX9_full_r6))))) ++ wsX90)
def wsX9_hasThen_r1 : List Cond := [Cond.fieldLink RX9 7 "WheatCountsModel" "row" "[I", Cond.fieldLink RX9 16 "WheatCountsModel" "tried" "[I", Cond.methodLink RX9 182 yX9_moveAll, Cond.instanceMethod yX9_moveAll, Cond.selects RX9 yX9_moveAll yX9_moveAll, Cond.initialized RX9, Cond.code yX9_moveAll cX9_moveAll 4 none, Cond.methodLink RX9 193 yX9_passes, Cond.instanceMethod yX9_passes, Cond.selects RX9 yX9_passes yX9_passes, Cond.code yX9_passes cX9_passes 3 none, Cond.methodLink RX9 190 yX9_oneHour, Cond.instanceMethod yX9_oneHour, Cond.selects RX9 yX9_oneHour yX9_oneHour, Cond.code yX9_oneHour cX9_oneHour 4 none, Cond.fieldLink RX9 29 "WheatCountsModel" "counted" "[I", Cond.fieldLink RX9 25 "WheatCountsModel" "absent" "I", Cond.constant RX9 72 (99999), Cond.methodLink RX9 73 yX9_seesOf, Cond.instanceMethod yX9_seesOf, Cond.selects RX9 yX9_seesOf yX9_seesOf, Cond.code yX9_seesOf cX9_seesOf 7 (some .int), Cond.methodLink RX9 80 yX9_its, Cond.instanceMethod yX9_its]
def wsX9_hasThen_r2 : List Cond := [Cond.selects RX9 yX9_its yX9_its, Cond.code yX9_its cX9_its 3 (some .int), Cond.methodLink RX9 97 yX9_sight, Cond.instanceMethod yX9_sight, Cond.selects RX9 yX9_sight yX9_sight, Cond.code yX9_sight cX9_sight 3 (some .int), Cond.methodLink RX9 177 yX9_lawOf, Cond.instanceMethod yX9_lawOf, Cond.selects RX9 yX9_lawOf yX9_lawOf, Cond.code yX9_lawOf cX9_lawOf 6 (some .int), Cond.methodLink RX9 169 yX9_walks, Cond.instanceMethod yX9_walks, Cond.selects RX9 yX9_walks yX9_walks, Cond.code yX9_walks cX9_walks 6 (some .int), Cond.fieldLink RX9 113 "WheatCountsModel" "use" "I", Cond.fieldLink RX9 120 "WheatCountsModel" "at" "I", Cond.fieldLink RX9 110 "WheatCountsModel" "end" "I", Cond.fieldLink RX9 148 "WheatCountsModel" "open" "I", Cond.fieldLink RX9 116 "WheatCountsModel" "good" "Z", Cond.fieldLink RX9 133 "WheatCountsModel" "namedA" "I", Cond.fieldLink RX9 136 "WheatCountsModel" "namedB" "I", Cond.fieldLink RX9 139 "WheatCountsModel" "namedC" "I", Cond.methodLink RX9 154 yX9_whole, Cond.instanceMethod yX9_whole]
def wsX9_hasThen_r3 : List Cond := [Cond.selects RX9 yX9_whole yX9_whole, Cond.code yX9_whole cX9_whole 3 (some .int), Cond.methodLink RX9 166 yX9_both, Cond.instanceMethod yX9_both, Cond.selects RX9 yX9_both yX9_both, Cond.methodLink RX9 123 yX9_byteAt, Cond.instanceMethod yX9_byteAt, Cond.selects RX9 yX9_byteAt yX9_byteAt, Cond.code yX9_byteAt cX9_byteAt 2 (some .int), Cond.code yX9_both cX9_both 3 (some .int), Cond.methodLink RX9 163 yX9_compared, Cond.instanceMethod yX9_compared, Cond.selects RX9 yX9_compared yX9_compared, Cond.code yX9_compared cX9_compared 5 (some .int), Cond.methodLink RX9 160 yX9_sum, Cond.instanceMethod yX9_sum, Cond.selects RX9 yX9_sum yX9_sum, Cond.code yX9_factor cX9_factor 3 (some .int), Cond.methodLink RX9 126 yX9_isDigit, Cond.static yX9_isDigit, Cond.code yX9_isDigit cX9_isDigit 1 (some .boolean), Cond.methodLink RX9 54 yX9_in, Cond.static yX9_in, Cond.code yX9_in cX9_in 3 (some .boolean)]
def wsX9_hasThen_r4 : List Cond := [Cond.methodLink RX9 142 yX9_number, Cond.instanceMethod yX9_number, Cond.selects RX9 yX9_number yX9_number, Cond.code yX9_number cX9_number 3 (some .int), Cond.methodLink RX9 145 yX9_named, Cond.instanceMethod yX9_named, Cond.selects RX9 yX9_named yX9_named, Cond.code yX9_named cX9_named 5 (some .int), Cond.methodLink RX9 129 yX9_fails, Cond.instanceMethod yX9_fails, Cond.selects RX9 yX9_fails yX9_fails, Cond.code yX9_fails cX9_fails 1 (some .int), Cond.methodLink RX9 151 yX9_factor, Cond.instanceMethod yX9_factor, Cond.selects RX9 yX9_factor yX9_factor, Cond.code yX9_product cX9_product 4 (some .int), Cond.code yX9_sum cX9_sum 4 (some .int), Cond.methodLink RX9 157 yX9_product, Cond.instanceMethod yX9_product, Cond.selects RX9 yX9_product yX9_product, Cond.methodLink RX9 173 yX9_held, Cond.static yX9_held, Cond.code yX9_held cX9_held 3 (some .int), Cond.methodLink RX9 76 yX9_has]
def wsX9_hasThen_r5 : List Cond := [Cond.static yX9_has, Cond.code yX9_has cX9_has 2 (some .boolean), Cond.methodLink RX9 100 yX9_counts, Cond.instanceMethod yX9_counts, Cond.selects RX9 yX9_counts yX9_counts, Cond.code yX9_counts cX9_counts 2 (some .int), Cond.methodLink RX9 186 yX9_takesAndGoes, Cond.instanceMethod yX9_takesAndGoes, Cond.selects RX9 yX9_takesAndGoes yX9_takesAndGoes, Cond.code yX9_takesAndGoes cX9_takesAndGoes 5 none, Cond.methodLink RX9 103 yX9_takes, Cond.instanceMethod yX9_takes, Cond.selects RX9 yX9_takes yX9_takes, Cond.code yX9_takes cX9_takes 4 (some .int), Cond.methodLink RX9 68 yX9_isCell, Cond.instanceMethod yX9_isCell, Cond.selects RX9 yX9_isCell yX9_isCell, Cond.code yX9_isCell cX9_isCell 2 (some .boolean), Cond.methodLink RX9 90 yX9_gets, Cond.instanceMethod yX9_gets, Cond.selects RX9 yX9_gets yX9_gets, Cond.code yX9_gets cX9_gets 4 none]
def wsX9_hasThen : List Cond := .code yX9_hasThen cX9_hasThen 5 (some .boolean) :: ((wsX9_hasThen_r1 ++ (wsX9_hasThen_r2 ++ (wsX9_hasThen_r3 ++ (wsX9_hasThen_r4 ++ wsX9_hasThen_r5)))) ++ wsX90)
def wsX9_tells : List Cond := .code yX9_tells cX9_tells 5 none :: ([.fieldLink RX9 32 "WheatCountsModel" "led" "[I"] ++ wsX90)
def wsX9_leadsBoth_r1 : List Cond := [Cond.fieldLink RX9 7 "WheatCountsModel" "row" "[I", Cond.methodLink RX9 80 yX9_its, Cond.instanceMethod yX9_its, Cond.selects RX9 yX9_its yX9_its, Cond.initialized RX9, Cond.code yX9_its cX9_its 3 (some .int), Cond.methodLink RX9 90 yX9_gets, Cond.instanceMethod yX9_gets, Cond.selects RX9 yX9_gets yX9_gets, Cond.code yX9_gets cX9_gets 4 none, Cond.methodLink RX9 209 yX9_hasThen, Cond.instanceMethod yX9_hasThen, Cond.selects RX9 yX9_hasThen yX9_hasThen, Cond.code yX9_hasThen cX9_hasThen 5 (some .boolean), Cond.fieldLink RX9 16 "WheatCountsModel" "tried" "[I", Cond.methodLink RX9 182 yX9_moveAll, Cond.instanceMethod yX9_moveAll, Cond.selects RX9 yX9_moveAll yX9_moveAll, Cond.code yX9_moveAll cX9_moveAll 4 none, Cond.methodLink RX9 193 yX9_passes, Cond.instanceMethod yX9_passes, Cond.selects RX9 yX9_passes yX9_passes, Cond.code yX9_passes cX9_passes 3 none, Cond.methodLink RX9 190 yX9_oneHour]
def wsX9_leadsBoth_r2 : List Cond := [Cond.instanceMethod yX9_oneHour, Cond.selects RX9 yX9_oneHour yX9_oneHour, Cond.code yX9_oneHour cX9_oneHour 4 none, Cond.fieldLink RX9 29 "WheatCountsModel" "counted" "[I", Cond.fieldLink RX9 25 "WheatCountsModel" "absent" "I", Cond.constant RX9 72 (99999), Cond.methodLink RX9 73 yX9_seesOf, Cond.instanceMethod yX9_seesOf, Cond.selects RX9 yX9_seesOf yX9_seesOf, Cond.code yX9_seesOf cX9_seesOf 7 (some .int), Cond.methodLink RX9 97 yX9_sight, Cond.instanceMethod yX9_sight, Cond.selects RX9 yX9_sight yX9_sight, Cond.code yX9_sight cX9_sight 3 (some .int), Cond.methodLink RX9 177 yX9_lawOf, Cond.instanceMethod yX9_lawOf, Cond.selects RX9 yX9_lawOf yX9_lawOf, Cond.code yX9_lawOf cX9_lawOf 6 (some .int), Cond.methodLink RX9 169 yX9_walks, Cond.instanceMethod yX9_walks, Cond.selects RX9 yX9_walks yX9_walks, Cond.code yX9_walks cX9_walks 6 (some .int), Cond.fieldLink RX9 113 "WheatCountsModel" "use" "I", Cond.fieldLink RX9 120 "WheatCountsModel" "at" "I"]
def wsX9_leadsBoth_r3 : List Cond := [Cond.fieldLink RX9 110 "WheatCountsModel" "end" "I", Cond.fieldLink RX9 148 "WheatCountsModel" "open" "I", Cond.fieldLink RX9 116 "WheatCountsModel" "good" "Z", Cond.fieldLink RX9 133 "WheatCountsModel" "namedA" "I", Cond.fieldLink RX9 136 "WheatCountsModel" "namedB" "I", Cond.fieldLink RX9 139 "WheatCountsModel" "namedC" "I", Cond.methodLink RX9 154 yX9_whole, Cond.instanceMethod yX9_whole, Cond.selects RX9 yX9_whole yX9_whole, Cond.code yX9_whole cX9_whole 3 (some .int), Cond.methodLink RX9 166 yX9_both, Cond.instanceMethod yX9_both, Cond.selects RX9 yX9_both yX9_both, Cond.methodLink RX9 123 yX9_byteAt, Cond.instanceMethod yX9_byteAt, Cond.selects RX9 yX9_byteAt yX9_byteAt, Cond.code yX9_byteAt cX9_byteAt 2 (some .int), Cond.code yX9_both cX9_both 3 (some .int), Cond.methodLink RX9 163 yX9_compared, Cond.instanceMethod yX9_compared, Cond.selects RX9 yX9_compared yX9_compared, Cond.code yX9_compared cX9_compared 5 (some .int), Cond.methodLink RX9 160 yX9_sum, Cond.instanceMethod yX9_sum]
def wsX9_leadsBoth_r4 : List Cond := [Cond.selects RX9 yX9_sum yX9_sum, Cond.code yX9_factor cX9_factor 3 (some .int), Cond.methodLink RX9 126 yX9_isDigit, Cond.static yX9_isDigit, Cond.code yX9_isDigit cX9_isDigit 1 (some .boolean), Cond.methodLink RX9 54 yX9_in, Cond.static yX9_in, Cond.code yX9_in cX9_in 3 (some .boolean), Cond.methodLink RX9 142 yX9_number, Cond.instanceMethod yX9_number, Cond.selects RX9 yX9_number yX9_number, Cond.code yX9_number cX9_number 3 (some .int), Cond.methodLink RX9 145 yX9_named, Cond.instanceMethod yX9_named, Cond.selects RX9 yX9_named yX9_named, Cond.code yX9_named cX9_named 5 (some .int), Cond.methodLink RX9 129 yX9_fails, Cond.instanceMethod yX9_fails, Cond.selects RX9 yX9_fails yX9_fails, Cond.code yX9_fails cX9_fails 1 (some .int), Cond.methodLink RX9 151 yX9_factor, Cond.instanceMethod yX9_factor, Cond.selects RX9 yX9_factor yX9_factor, Cond.code yX9_product cX9_product 4 (some .int)]
def wsX9_leadsBoth_r5 : List Cond := [Cond.code yX9_sum cX9_sum 4 (some .int), Cond.methodLink RX9 157 yX9_product, Cond.instanceMethod yX9_product, Cond.selects RX9 yX9_product yX9_product, Cond.methodLink RX9 173 yX9_held, Cond.static yX9_held, Cond.code yX9_held cX9_held 3 (some .int), Cond.methodLink RX9 76 yX9_has, Cond.static yX9_has, Cond.code yX9_has cX9_has 2 (some .boolean), Cond.methodLink RX9 100 yX9_counts, Cond.instanceMethod yX9_counts, Cond.selects RX9 yX9_counts yX9_counts, Cond.code yX9_counts cX9_counts 2 (some .int), Cond.methodLink RX9 186 yX9_takesAndGoes, Cond.instanceMethod yX9_takesAndGoes, Cond.selects RX9 yX9_takesAndGoes yX9_takesAndGoes, Cond.code yX9_takesAndGoes cX9_takesAndGoes 5 none, Cond.methodLink RX9 103 yX9_takes, Cond.instanceMethod yX9_takes, Cond.selects RX9 yX9_takes yX9_takes, Cond.code yX9_takes cX9_takes 4 (some .int), Cond.methodLink RX9 68 yX9_isCell, Cond.instanceMethod yX9_isCell]
def wsX9_leadsBoth_r6 : List Cond := [Cond.selects RX9 yX9_isCell yX9_isCell, Cond.code yX9_isCell cX9_isCell 2 (some .boolean)]
def wsX9_leadsBoth : List Cond := .code yX9_leadsBoth cX9_leadsBoth 12 (some .boolean) :: ((wsX9_leadsBoth_r1 ++ (wsX9_leadsBoth_r2 ++ (wsX9_leadsBoth_r3 ++ (wsX9_leadsBoth_r4 ++ (wsX9_leadsBoth_r5 ++ wsX9_leadsBoth_r6))))) ++ wsX90)
def wsX9_findLeads_r1 : List Cond := [Cond.fieldLink RX9 7 "WheatCountsModel" "row" "[I", Cond.methodLink RX9 205 yX9_tells, Cond.instanceMethod yX9_tells, Cond.selects RX9 yX9_tells yX9_tells, Cond.initialized RX9, Cond.code yX9_tells cX9_tells 5 none, Cond.fieldLink RX9 32 "WheatCountsModel" "led" "[I", Cond.methodLink RX9 209 yX9_hasThen, Cond.instanceMethod yX9_hasThen, Cond.selects RX9 yX9_hasThen yX9_hasThen, Cond.code yX9_hasThen cX9_hasThen 5 (some .boolean), Cond.fieldLink RX9 16 "WheatCountsModel" "tried" "[I", Cond.methodLink RX9 182 yX9_moveAll, Cond.instanceMethod yX9_moveAll, Cond.selects RX9 yX9_moveAll yX9_moveAll, Cond.code yX9_moveAll cX9_moveAll 4 none, Cond.methodLink RX9 193 yX9_passes, Cond.instanceMethod yX9_passes, Cond.selects RX9 yX9_passes yX9_passes, Cond.code yX9_passes cX9_passes 3 none, Cond.methodLink RX9 190 yX9_oneHour, Cond.instanceMethod yX9_oneHour, Cond.selects RX9 yX9_oneHour yX9_oneHour, Cond.code yX9_oneHour cX9_oneHour 4 none]
def wsX9_findLeads_r2 : List Cond := [Cond.fieldLink RX9 29 "WheatCountsModel" "counted" "[I", Cond.fieldLink RX9 25 "WheatCountsModel" "absent" "I", Cond.constant RX9 72 (99999), Cond.methodLink RX9 73 yX9_seesOf, Cond.instanceMethod yX9_seesOf, Cond.selects RX9 yX9_seesOf yX9_seesOf, Cond.code yX9_seesOf cX9_seesOf 7 (some .int), Cond.methodLink RX9 80 yX9_its, Cond.instanceMethod yX9_its, Cond.selects RX9 yX9_its yX9_its, Cond.code yX9_its cX9_its 3 (some .int), Cond.methodLink RX9 97 yX9_sight, Cond.instanceMethod yX9_sight, Cond.selects RX9 yX9_sight yX9_sight, Cond.code yX9_sight cX9_sight 3 (some .int), Cond.methodLink RX9 177 yX9_lawOf, Cond.instanceMethod yX9_lawOf, Cond.selects RX9 yX9_lawOf yX9_lawOf, Cond.code yX9_lawOf cX9_lawOf 6 (some .int), Cond.methodLink RX9 169 yX9_walks, Cond.instanceMethod yX9_walks, Cond.selects RX9 yX9_walks yX9_walks, Cond.code yX9_walks cX9_walks 6 (some .int), Cond.fieldLink RX9 113 "WheatCountsModel" "use" "I"]
def wsX9_findLeads_r3 : List Cond := [Cond.fieldLink RX9 120 "WheatCountsModel" "at" "I", Cond.fieldLink RX9 110 "WheatCountsModel" "end" "I", Cond.fieldLink RX9 148 "WheatCountsModel" "open" "I", Cond.fieldLink RX9 116 "WheatCountsModel" "good" "Z", Cond.fieldLink RX9 133 "WheatCountsModel" "namedA" "I", Cond.fieldLink RX9 136 "WheatCountsModel" "namedB" "I", Cond.fieldLink RX9 139 "WheatCountsModel" "namedC" "I", Cond.methodLink RX9 154 yX9_whole, Cond.instanceMethod yX9_whole, Cond.selects RX9 yX9_whole yX9_whole, Cond.code yX9_whole cX9_whole 3 (some .int), Cond.methodLink RX9 166 yX9_both, Cond.instanceMethod yX9_both, Cond.selects RX9 yX9_both yX9_both, Cond.methodLink RX9 123 yX9_byteAt, Cond.instanceMethod yX9_byteAt, Cond.selects RX9 yX9_byteAt yX9_byteAt, Cond.code yX9_byteAt cX9_byteAt 2 (some .int), Cond.code yX9_both cX9_both 3 (some .int), Cond.methodLink RX9 163 yX9_compared, Cond.instanceMethod yX9_compared, Cond.selects RX9 yX9_compared yX9_compared, Cond.code yX9_compared cX9_compared 5 (some .int), Cond.methodLink RX9 160 yX9_sum]
def wsX9_findLeads_r4 : List Cond := [Cond.instanceMethod yX9_sum, Cond.selects RX9 yX9_sum yX9_sum, Cond.code yX9_factor cX9_factor 3 (some .int), Cond.methodLink RX9 126 yX9_isDigit, Cond.static yX9_isDigit, Cond.code yX9_isDigit cX9_isDigit 1 (some .boolean), Cond.methodLink RX9 54 yX9_in, Cond.static yX9_in, Cond.code yX9_in cX9_in 3 (some .boolean), Cond.methodLink RX9 142 yX9_number, Cond.instanceMethod yX9_number, Cond.selects RX9 yX9_number yX9_number, Cond.code yX9_number cX9_number 3 (some .int), Cond.methodLink RX9 145 yX9_named, Cond.instanceMethod yX9_named, Cond.selects RX9 yX9_named yX9_named, Cond.code yX9_named cX9_named 5 (some .int), Cond.methodLink RX9 129 yX9_fails, Cond.instanceMethod yX9_fails, Cond.selects RX9 yX9_fails yX9_fails, Cond.code yX9_fails cX9_fails 1 (some .int), Cond.methodLink RX9 151 yX9_factor, Cond.instanceMethod yX9_factor, Cond.selects RX9 yX9_factor yX9_factor]
def wsX9_findLeads_r5 : List Cond := [Cond.code yX9_product cX9_product 4 (some .int), Cond.code yX9_sum cX9_sum 4 (some .int), Cond.methodLink RX9 157 yX9_product, Cond.instanceMethod yX9_product, Cond.selects RX9 yX9_product yX9_product, Cond.methodLink RX9 173 yX9_held, Cond.static yX9_held, Cond.code yX9_held cX9_held 3 (some .int), Cond.methodLink RX9 76 yX9_has, Cond.static yX9_has, Cond.code yX9_has cX9_has 2 (some .boolean), Cond.methodLink RX9 100 yX9_counts, Cond.instanceMethod yX9_counts, Cond.selects RX9 yX9_counts yX9_counts, Cond.code yX9_counts cX9_counts 2 (some .int), Cond.methodLink RX9 186 yX9_takesAndGoes, Cond.instanceMethod yX9_takesAndGoes, Cond.selects RX9 yX9_takesAndGoes yX9_takesAndGoes, Cond.code yX9_takesAndGoes cX9_takesAndGoes 5 none, Cond.methodLink RX9 103 yX9_takes, Cond.instanceMethod yX9_takes, Cond.selects RX9 yX9_takes yX9_takes, Cond.code yX9_takes cX9_takes 4 (some .int), Cond.methodLink RX9 68 yX9_isCell]
def wsX9_findLeads_r6 : List Cond := [Cond.instanceMethod yX9_isCell, Cond.selects RX9 yX9_isCell yX9_isCell, Cond.code yX9_isCell cX9_isCell 2 (some .boolean), Cond.methodLink RX9 90 yX9_gets, Cond.instanceMethod yX9_gets, Cond.selects RX9 yX9_gets yX9_gets, Cond.code yX9_gets cX9_gets 4 none, Cond.methodLink RX9 212 yX9_leadsBoth, Cond.instanceMethod yX9_leadsBoth, Cond.selects RX9 yX9_leadsBoth yX9_leadsBoth, Cond.code yX9_leadsBoth cX9_leadsBoth 12 (some .boolean)]
def wsX9_findLeads : List Cond := .code yX9_findLeads cX9_findLeads 9 (some .int) :: ((wsX9_findLeads_r1 ++ (wsX9_findLeads_r2 ++ (wsX9_findLeads_r3 ++ (wsX9_findLeads_r4 ++ (wsX9_findLeads_r5 ++ wsX9_findLeads_r6))))) ++ wsX90)
def wsX9_leads_r1 : List Cond := [Cond.constant RX9 72 (99999), Cond.constant RX9 58 (-1000000001), Cond.constant RX9 204 (-1000000002), Cond.fieldLink RX9 32 "WheatCountsModel" "led" "[I", Cond.methodLink RX9 68 yX9_isCell, Cond.instanceMethod yX9_isCell, Cond.selects RX9 yX9_isCell yX9_isCell, Cond.initialized RX9, Cond.code yX9_isCell cX9_isCell 2 (some .boolean), Cond.fieldLink RX9 7 "WheatCountsModel" "row" "[I", Cond.methodLink RX9 54 yX9_in, Cond.static yX9_in, Cond.code yX9_in cX9_in 3 (some .boolean), Cond.methodLink RX9 59 yX9_errs, Cond.instanceMethod yX9_errs, Cond.selects RX9 yX9_errs yX9_errs, Cond.code yX9_errs cX9_errs 2 (some .int), Cond.fieldLink RX9 22 "WheatCountsModel" "found" "[I", Cond.constant RX9 53 (-1000000000), Cond.methodLink RX9 216 yX9_findLeads, Cond.instanceMethod yX9_findLeads, Cond.selects RX9 yX9_findLeads yX9_findLeads, Cond.code yX9_findLeads cX9_findLeads 9 (some .int), Cond.methodLink RX9 205 yX9_tells]
def wsX9_leads_r2 : List Cond := [Cond.instanceMethod yX9_tells, Cond.selects RX9 yX9_tells yX9_tells, Cond.code yX9_tells cX9_tells 5 none, Cond.methodLink RX9 209 yX9_hasThen, Cond.instanceMethod yX9_hasThen, Cond.selects RX9 yX9_hasThen yX9_hasThen, Cond.code yX9_hasThen cX9_hasThen 5 (some .boolean), Cond.fieldLink RX9 16 "WheatCountsModel" "tried" "[I", Cond.methodLink RX9 182 yX9_moveAll, Cond.instanceMethod yX9_moveAll, Cond.selects RX9 yX9_moveAll yX9_moveAll, Cond.code yX9_moveAll cX9_moveAll 4 none, Cond.methodLink RX9 193 yX9_passes, Cond.instanceMethod yX9_passes, Cond.selects RX9 yX9_passes yX9_passes, Cond.code yX9_passes cX9_passes 3 none, Cond.methodLink RX9 190 yX9_oneHour, Cond.instanceMethod yX9_oneHour, Cond.selects RX9 yX9_oneHour yX9_oneHour, Cond.code yX9_oneHour cX9_oneHour 4 none, Cond.fieldLink RX9 29 "WheatCountsModel" "counted" "[I", Cond.fieldLink RX9 25 "WheatCountsModel" "absent" "I", Cond.methodLink RX9 73 yX9_seesOf, Cond.instanceMethod yX9_seesOf]
def wsX9_leads_r3 : List Cond := [Cond.selects RX9 yX9_seesOf yX9_seesOf, Cond.code yX9_seesOf cX9_seesOf 7 (some .int), Cond.methodLink RX9 80 yX9_its, Cond.instanceMethod yX9_its, Cond.selects RX9 yX9_its yX9_its, Cond.code yX9_its cX9_its 3 (some .int), Cond.methodLink RX9 97 yX9_sight, Cond.instanceMethod yX9_sight, Cond.selects RX9 yX9_sight yX9_sight, Cond.code yX9_sight cX9_sight 3 (some .int), Cond.methodLink RX9 177 yX9_lawOf, Cond.instanceMethod yX9_lawOf, Cond.selects RX9 yX9_lawOf yX9_lawOf, Cond.code yX9_lawOf cX9_lawOf 6 (some .int), Cond.methodLink RX9 169 yX9_walks, Cond.instanceMethod yX9_walks, Cond.selects RX9 yX9_walks yX9_walks, Cond.code yX9_walks cX9_walks 6 (some .int), Cond.fieldLink RX9 113 "WheatCountsModel" "use" "I", Cond.fieldLink RX9 120 "WheatCountsModel" "at" "I", Cond.fieldLink RX9 110 "WheatCountsModel" "end" "I", Cond.fieldLink RX9 148 "WheatCountsModel" "open" "I", Cond.fieldLink RX9 116 "WheatCountsModel" "good" "Z", Cond.fieldLink RX9 133 "WheatCountsModel" "namedA" "I"]
def wsX9_leads_r4 : List Cond := [Cond.fieldLink RX9 136 "WheatCountsModel" "namedB" "I", Cond.fieldLink RX9 139 "WheatCountsModel" "namedC" "I", Cond.methodLink RX9 154 yX9_whole, Cond.instanceMethod yX9_whole, Cond.selects RX9 yX9_whole yX9_whole, Cond.code yX9_whole cX9_whole 3 (some .int), Cond.methodLink RX9 166 yX9_both, Cond.instanceMethod yX9_both, Cond.selects RX9 yX9_both yX9_both, Cond.methodLink RX9 123 yX9_byteAt, Cond.instanceMethod yX9_byteAt, Cond.selects RX9 yX9_byteAt yX9_byteAt, Cond.code yX9_byteAt cX9_byteAt 2 (some .int), Cond.code yX9_both cX9_both 3 (some .int), Cond.methodLink RX9 163 yX9_compared, Cond.instanceMethod yX9_compared, Cond.selects RX9 yX9_compared yX9_compared, Cond.code yX9_compared cX9_compared 5 (some .int), Cond.methodLink RX9 160 yX9_sum, Cond.instanceMethod yX9_sum, Cond.selects RX9 yX9_sum yX9_sum, Cond.code yX9_factor cX9_factor 3 (some .int), Cond.methodLink RX9 126 yX9_isDigit, Cond.static yX9_isDigit]
def wsX9_leads_r5 : List Cond := [Cond.code yX9_isDigit cX9_isDigit 1 (some .boolean), Cond.methodLink RX9 142 yX9_number, Cond.instanceMethod yX9_number, Cond.selects RX9 yX9_number yX9_number, Cond.code yX9_number cX9_number 3 (some .int), Cond.methodLink RX9 145 yX9_named, Cond.instanceMethod yX9_named, Cond.selects RX9 yX9_named yX9_named, Cond.code yX9_named cX9_named 5 (some .int), Cond.methodLink RX9 129 yX9_fails, Cond.instanceMethod yX9_fails, Cond.selects RX9 yX9_fails yX9_fails, Cond.code yX9_fails cX9_fails 1 (some .int), Cond.methodLink RX9 151 yX9_factor, Cond.instanceMethod yX9_factor, Cond.selects RX9 yX9_factor yX9_factor, Cond.code yX9_product cX9_product 4 (some .int), Cond.code yX9_sum cX9_sum 4 (some .int), Cond.methodLink RX9 157 yX9_product, Cond.instanceMethod yX9_product, Cond.selects RX9 yX9_product yX9_product, Cond.methodLink RX9 173 yX9_held, Cond.static yX9_held, Cond.code yX9_held cX9_held 3 (some .int)]
def wsX9_leads_r6 : List Cond := [Cond.methodLink RX9 76 yX9_has, Cond.static yX9_has, Cond.code yX9_has cX9_has 2 (some .boolean), Cond.methodLink RX9 100 yX9_counts, Cond.instanceMethod yX9_counts, Cond.selects RX9 yX9_counts yX9_counts, Cond.code yX9_counts cX9_counts 2 (some .int), Cond.methodLink RX9 186 yX9_takesAndGoes, Cond.instanceMethod yX9_takesAndGoes, Cond.selects RX9 yX9_takesAndGoes yX9_takesAndGoes, Cond.code yX9_takesAndGoes cX9_takesAndGoes 5 none, Cond.methodLink RX9 103 yX9_takes, Cond.instanceMethod yX9_takes, Cond.selects RX9 yX9_takes yX9_takes, Cond.code yX9_takes cX9_takes 4 (some .int), Cond.methodLink RX9 90 yX9_gets, Cond.instanceMethod yX9_gets, Cond.selects RX9 yX9_gets yX9_gets, Cond.code yX9_gets cX9_gets 4 none, Cond.methodLink RX9 212 yX9_leadsBoth, Cond.instanceMethod yX9_leadsBoth, Cond.selects RX9 yX9_leadsBoth yX9_leadsBoth, Cond.code yX9_leadsBoth cX9_leadsBoth 12 (some .boolean)]
def wsX9_leads : List Cond := .code yX9_leads cX9_leads 6 (some .int) :: ((wsX9_leads_r1 ++ (wsX9_leads_r2 ++ (wsX9_leads_r3 ++ (wsX9_leads_r4 ++ (wsX9_leads_r5 ++ wsX9_leads_r6))))) ++ wsX90)
def wsX9_sums : List Cond := .code yX9_sums cX9_sums 8 (some .int) :: ([.constant RX9 203 (999999), .constant RX9 58 (-1000000001), .fieldLink RX9 7 "WheatCountsModel" "row" "[I", .constant RX9 204 (-1000000002), .methodLink RX9 54 yX9_in, .static yX9_in, .initialized RX9, .code yX9_in cX9_in 3 (some .boolean), .methodLink RX9 59 yX9_errs, .instanceMethod yX9_errs, .selects RX9 yX9_errs yX9_errs, .code yX9_errs cX9_errs 2 (some .int), .fieldLink RX9 22 "WheatCountsModel" "found" "[I", .constant RX9 53 (-1000000000), .methodLink RX9 76 yX9_has, .static yX9_has, .code yX9_has cX9_has 2 (some .boolean)] ++ wsX90)
def wsX9_isSheet : List Cond := .code yX9_isSheet cX9_isSheet 1 (some .boolean) :: ([.methodLink RX9 54 yX9_in, .static yX9_in, .initialized RX9, .code yX9_in cX9_in 3 (some .boolean)])
def wsX9_grows : List Cond := .code yX9_grows cX9_grows 7 (some .boolean) :: ([.fieldLink RX9 7 "WheatCountsModel" "row" "[I", .fieldLink RX9 47 "WheatCountsModel" "seen" "[I", .fieldLink RX9 41 "WheatCountsModel" "sheets" "[I", .methodLink RX9 76 yX9_has, .static yX9_has, .initialized RX9, .code yX9_has cX9_has 2 (some .boolean), .methodLink RX9 100 yX9_counts, .instanceMethod yX9_counts, .selects RX9 yX9_counts yX9_counts, .code yX9_counts cX9_counts 2 (some .int), .methodLink RX9 80 yX9_its, .instanceMethod yX9_its, .selects RX9 yX9_its yX9_its, .code yX9_its cX9_its 3 (some .int)] ++ wsX90)
def wsX9_looks_r1 : List Cond := [Cond.fieldLink RX9 7 "WheatCountsModel" "row" "[I", Cond.fieldLink RX9 47 "WheatCountsModel" "seen" "[I", Cond.methodLink RX9 73 yX9_seesOf, Cond.instanceMethod yX9_seesOf, Cond.selects RX9 yX9_seesOf yX9_seesOf, Cond.initialized RX9, Cond.code yX9_seesOf cX9_seesOf 7 (some .int), Cond.methodLink RX9 80 yX9_its, Cond.instanceMethod yX9_its, Cond.selects RX9 yX9_its yX9_its, Cond.code yX9_its cX9_its 3 (some .int), Cond.methodLink RX9 97 yX9_sight, Cond.instanceMethod yX9_sight, Cond.selects RX9 yX9_sight yX9_sight, Cond.code yX9_sight cX9_sight 3 (some .int), Cond.methodLink RX9 177 yX9_lawOf, Cond.instanceMethod yX9_lawOf, Cond.selects RX9 yX9_lawOf yX9_lawOf, Cond.code yX9_lawOf cX9_lawOf 6 (some .int), Cond.methodLink RX9 169 yX9_walks, Cond.instanceMethod yX9_walks, Cond.selects RX9 yX9_walks yX9_walks, Cond.code yX9_walks cX9_walks 6 (some .int), Cond.fieldLink RX9 113 "WheatCountsModel" "use" "I"]
def wsX9_looks_r2 : List Cond := [Cond.fieldLink RX9 120 "WheatCountsModel" "at" "I", Cond.fieldLink RX9 110 "WheatCountsModel" "end" "I", Cond.fieldLink RX9 148 "WheatCountsModel" "open" "I", Cond.fieldLink RX9 116 "WheatCountsModel" "good" "Z", Cond.fieldLink RX9 133 "WheatCountsModel" "namedA" "I", Cond.fieldLink RX9 136 "WheatCountsModel" "namedB" "I", Cond.fieldLink RX9 139 "WheatCountsModel" "namedC" "I", Cond.methodLink RX9 154 yX9_whole, Cond.instanceMethod yX9_whole, Cond.selects RX9 yX9_whole yX9_whole, Cond.code yX9_whole cX9_whole 3 (some .int), Cond.methodLink RX9 166 yX9_both, Cond.instanceMethod yX9_both, Cond.selects RX9 yX9_both yX9_both, Cond.methodLink RX9 123 yX9_byteAt, Cond.instanceMethod yX9_byteAt, Cond.selects RX9 yX9_byteAt yX9_byteAt, Cond.code yX9_byteAt cX9_byteAt 2 (some .int), Cond.code yX9_both cX9_both 3 (some .int), Cond.methodLink RX9 163 yX9_compared, Cond.instanceMethod yX9_compared, Cond.selects RX9 yX9_compared yX9_compared, Cond.code yX9_compared cX9_compared 5 (some .int), Cond.methodLink RX9 160 yX9_sum]
def wsX9_looks_r3 : List Cond := [Cond.instanceMethod yX9_sum, Cond.selects RX9 yX9_sum yX9_sum, Cond.code yX9_factor cX9_factor 3 (some .int), Cond.methodLink RX9 126 yX9_isDigit, Cond.static yX9_isDigit, Cond.code yX9_isDigit cX9_isDigit 1 (some .boolean), Cond.methodLink RX9 54 yX9_in, Cond.static yX9_in, Cond.code yX9_in cX9_in 3 (some .boolean), Cond.methodLink RX9 142 yX9_number, Cond.instanceMethod yX9_number, Cond.selects RX9 yX9_number yX9_number, Cond.code yX9_number cX9_number 3 (some .int), Cond.methodLink RX9 145 yX9_named, Cond.instanceMethod yX9_named, Cond.selects RX9 yX9_named yX9_named, Cond.code yX9_named cX9_named 5 (some .int), Cond.methodLink RX9 129 yX9_fails, Cond.instanceMethod yX9_fails, Cond.selects RX9 yX9_fails yX9_fails, Cond.code yX9_fails cX9_fails 1 (some .int), Cond.methodLink RX9 151 yX9_factor, Cond.instanceMethod yX9_factor, Cond.selects RX9 yX9_factor yX9_factor]
def wsX9_looks_r4 : List Cond := [Cond.code yX9_product cX9_product 4 (some .int), Cond.code yX9_sum cX9_sum 4 (some .int), Cond.methodLink RX9 157 yX9_product, Cond.instanceMethod yX9_product, Cond.selects RX9 yX9_product yX9_product, Cond.methodLink RX9 173 yX9_held, Cond.static yX9_held, Cond.code yX9_held cX9_held 3 (some .int), Cond.methodLink RX9 76 yX9_has, Cond.static yX9_has, Cond.code yX9_has cX9_has 2 (some .boolean)]
def wsX9_looks : List Cond := .code yX9_looks cX9_looks 2 none :: ((wsX9_looks_r1 ++ (wsX9_looks_r2 ++ (wsX9_looks_r3 ++ wsX9_looks_r4))) ++ wsX90)
def wsX9_looked_r1 : List Cond := [Cond.constant RX9 58 (-1000000001), Cond.fieldLink RX9 35 "WheatCountsModel" "bitsOf" "[I", Cond.fieldLink RX9 38 "WheatCountsModel" "sizeOf" "[I", Cond.fieldLink RX9 7 "WheatCountsModel" "row" "[I", Cond.constant RX9 204 (-1000000002), Cond.methodLink RX9 219 yX9_isSheet, Cond.static yX9_isSheet, Cond.initialized RX9, Cond.code yX9_isSheet cX9_isSheet 1 (some .boolean), Cond.methodLink RX9 54 yX9_in, Cond.static yX9_in, Cond.code yX9_in cX9_in 3 (some .boolean), Cond.methodLink RX9 59 yX9_errs, Cond.instanceMethod yX9_errs, Cond.selects RX9 yX9_errs yX9_errs, Cond.code yX9_errs cX9_errs 2 (some .int), Cond.fieldLink RX9 22 "WheatCountsModel" "found" "[I", Cond.constant RX9 53 (-1000000000), Cond.methodLink RX9 222 yX9_looks, Cond.instanceMethod yX9_looks, Cond.selects RX9 yX9_looks yX9_looks, Cond.code yX9_looks cX9_looks 2 none, Cond.fieldLink RX9 47 "WheatCountsModel" "seen" "[I", Cond.methodLink RX9 73 yX9_seesOf]
def wsX9_looked_r2 : List Cond := [Cond.instanceMethod yX9_seesOf, Cond.selects RX9 yX9_seesOf yX9_seesOf, Cond.code yX9_seesOf cX9_seesOf 7 (some .int), Cond.methodLink RX9 80 yX9_its, Cond.instanceMethod yX9_its, Cond.selects RX9 yX9_its yX9_its, Cond.code yX9_its cX9_its 3 (some .int), Cond.methodLink RX9 97 yX9_sight, Cond.instanceMethod yX9_sight, Cond.selects RX9 yX9_sight yX9_sight, Cond.code yX9_sight cX9_sight 3 (some .int), Cond.methodLink RX9 177 yX9_lawOf, Cond.instanceMethod yX9_lawOf, Cond.selects RX9 yX9_lawOf yX9_lawOf, Cond.code yX9_lawOf cX9_lawOf 6 (some .int), Cond.methodLink RX9 169 yX9_walks, Cond.instanceMethod yX9_walks, Cond.selects RX9 yX9_walks yX9_walks, Cond.code yX9_walks cX9_walks 6 (some .int), Cond.fieldLink RX9 113 "WheatCountsModel" "use" "I", Cond.fieldLink RX9 120 "WheatCountsModel" "at" "I", Cond.fieldLink RX9 110 "WheatCountsModel" "end" "I", Cond.fieldLink RX9 148 "WheatCountsModel" "open" "I", Cond.fieldLink RX9 116 "WheatCountsModel" "good" "Z"]
def wsX9_looked_r3 : List Cond := [Cond.fieldLink RX9 133 "WheatCountsModel" "namedA" "I", Cond.fieldLink RX9 136 "WheatCountsModel" "namedB" "I", Cond.fieldLink RX9 139 "WheatCountsModel" "namedC" "I", Cond.methodLink RX9 154 yX9_whole, Cond.instanceMethod yX9_whole, Cond.selects RX9 yX9_whole yX9_whole, Cond.code yX9_whole cX9_whole 3 (some .int), Cond.methodLink RX9 166 yX9_both, Cond.instanceMethod yX9_both, Cond.selects RX9 yX9_both yX9_both, Cond.methodLink RX9 123 yX9_byteAt, Cond.instanceMethod yX9_byteAt, Cond.selects RX9 yX9_byteAt yX9_byteAt, Cond.code yX9_byteAt cX9_byteAt 2 (some .int), Cond.code yX9_both cX9_both 3 (some .int), Cond.methodLink RX9 163 yX9_compared, Cond.instanceMethod yX9_compared, Cond.selects RX9 yX9_compared yX9_compared, Cond.code yX9_compared cX9_compared 5 (some .int), Cond.methodLink RX9 160 yX9_sum, Cond.instanceMethod yX9_sum, Cond.selects RX9 yX9_sum yX9_sum, Cond.code yX9_factor cX9_factor 3 (some .int), Cond.methodLink RX9 126 yX9_isDigit]
def wsX9_looked_r4 : List Cond := [Cond.static yX9_isDigit, Cond.code yX9_isDigit cX9_isDigit 1 (some .boolean), Cond.methodLink RX9 142 yX9_number, Cond.instanceMethod yX9_number, Cond.selects RX9 yX9_number yX9_number, Cond.code yX9_number cX9_number 3 (some .int), Cond.methodLink RX9 145 yX9_named, Cond.instanceMethod yX9_named, Cond.selects RX9 yX9_named yX9_named, Cond.code yX9_named cX9_named 5 (some .int), Cond.methodLink RX9 129 yX9_fails, Cond.instanceMethod yX9_fails, Cond.selects RX9 yX9_fails yX9_fails, Cond.code yX9_fails cX9_fails 1 (some .int), Cond.methodLink RX9 151 yX9_factor, Cond.instanceMethod yX9_factor, Cond.selects RX9 yX9_factor yX9_factor, Cond.code yX9_product cX9_product 4 (some .int), Cond.code yX9_sum cX9_sum 4 (some .int), Cond.methodLink RX9 157 yX9_product, Cond.instanceMethod yX9_product, Cond.selects RX9 yX9_product yX9_product, Cond.methodLink RX9 173 yX9_held, Cond.static yX9_held]
def wsX9_looked_r5 : List Cond := [Cond.code yX9_held cX9_held 3 (some .int), Cond.methodLink RX9 76 yX9_has, Cond.static yX9_has, Cond.code yX9_has cX9_has 2 (some .boolean), Cond.methodLink RX9 225 yX9_grows, Cond.instanceMethod yX9_grows, Cond.selects RX9 yX9_grows yX9_grows, Cond.code yX9_grows cX9_grows 7 (some .boolean), Cond.fieldLink RX9 41 "WheatCountsModel" "sheets" "[I", Cond.methodLink RX9 100 yX9_counts, Cond.instanceMethod yX9_counts, Cond.selects RX9 yX9_counts yX9_counts, Cond.code yX9_counts cX9_counts 2 (some .int)]
def wsX9_looked : List Cond := .code yX9_looked cX9_looked 6 (some .int) :: ((wsX9_looked_r1 ++ (wsX9_looked_r2 ++ (wsX9_looked_r3 ++ (wsX9_looked_r4 ++ wsX9_looked_r5)))) ++ wsX90)
def wsX9_watch_r1 : List Cond := [Cond.fieldLink RX9 7 "WheatCountsModel" "row" "[I", Cond.fieldLink RX9 47 "WheatCountsModel" "seen" "[I", Cond.constant RX9 204 (-1000000002), Cond.methodLink RX9 222 yX9_looks, Cond.instanceMethod yX9_looks, Cond.selects RX9 yX9_looks yX9_looks, Cond.initialized RX9, Cond.code yX9_looks cX9_looks 2 none, Cond.methodLink RX9 73 yX9_seesOf, Cond.instanceMethod yX9_seesOf, Cond.selects RX9 yX9_seesOf yX9_seesOf, Cond.code yX9_seesOf cX9_seesOf 7 (some .int), Cond.methodLink RX9 80 yX9_its, Cond.instanceMethod yX9_its, Cond.selects RX9 yX9_its yX9_its, Cond.code yX9_its cX9_its 3 (some .int), Cond.methodLink RX9 97 yX9_sight, Cond.instanceMethod yX9_sight, Cond.selects RX9 yX9_sight yX9_sight, Cond.code yX9_sight cX9_sight 3 (some .int), Cond.methodLink RX9 177 yX9_lawOf, Cond.instanceMethod yX9_lawOf, Cond.selects RX9 yX9_lawOf yX9_lawOf, Cond.code yX9_lawOf cX9_lawOf 6 (some .int)]
def wsX9_watch_r2 : List Cond := [Cond.methodLink RX9 169 yX9_walks, Cond.instanceMethod yX9_walks, Cond.selects RX9 yX9_walks yX9_walks, Cond.code yX9_walks cX9_walks 6 (some .int), Cond.fieldLink RX9 113 "WheatCountsModel" "use" "I", Cond.fieldLink RX9 120 "WheatCountsModel" "at" "I", Cond.fieldLink RX9 110 "WheatCountsModel" "end" "I", Cond.fieldLink RX9 148 "WheatCountsModel" "open" "I", Cond.fieldLink RX9 116 "WheatCountsModel" "good" "Z", Cond.fieldLink RX9 133 "WheatCountsModel" "namedA" "I", Cond.fieldLink RX9 136 "WheatCountsModel" "namedB" "I", Cond.fieldLink RX9 139 "WheatCountsModel" "namedC" "I", Cond.methodLink RX9 154 yX9_whole, Cond.instanceMethod yX9_whole, Cond.selects RX9 yX9_whole yX9_whole, Cond.code yX9_whole cX9_whole 3 (some .int), Cond.methodLink RX9 166 yX9_both, Cond.instanceMethod yX9_both, Cond.selects RX9 yX9_both yX9_both, Cond.methodLink RX9 123 yX9_byteAt, Cond.instanceMethod yX9_byteAt, Cond.selects RX9 yX9_byteAt yX9_byteAt, Cond.code yX9_byteAt cX9_byteAt 2 (some .int), Cond.code yX9_both cX9_both 3 (some .int)]
def wsX9_watch_r3 : List Cond := [Cond.methodLink RX9 163 yX9_compared, Cond.instanceMethod yX9_compared, Cond.selects RX9 yX9_compared yX9_compared, Cond.code yX9_compared cX9_compared 5 (some .int), Cond.methodLink RX9 160 yX9_sum, Cond.instanceMethod yX9_sum, Cond.selects RX9 yX9_sum yX9_sum, Cond.code yX9_factor cX9_factor 3 (some .int), Cond.methodLink RX9 126 yX9_isDigit, Cond.static yX9_isDigit, Cond.code yX9_isDigit cX9_isDigit 1 (some .boolean), Cond.methodLink RX9 54 yX9_in, Cond.static yX9_in, Cond.code yX9_in cX9_in 3 (some .boolean), Cond.methodLink RX9 142 yX9_number, Cond.instanceMethod yX9_number, Cond.selects RX9 yX9_number yX9_number, Cond.code yX9_number cX9_number 3 (some .int), Cond.methodLink RX9 145 yX9_named, Cond.instanceMethod yX9_named, Cond.selects RX9 yX9_named yX9_named, Cond.code yX9_named cX9_named 5 (some .int), Cond.methodLink RX9 129 yX9_fails, Cond.instanceMethod yX9_fails]
def wsX9_watch_r4 : List Cond := [Cond.selects RX9 yX9_fails yX9_fails, Cond.code yX9_fails cX9_fails 1 (some .int), Cond.methodLink RX9 151 yX9_factor, Cond.instanceMethod yX9_factor, Cond.selects RX9 yX9_factor yX9_factor, Cond.code yX9_product cX9_product 4 (some .int), Cond.code yX9_sum cX9_sum 4 (some .int), Cond.methodLink RX9 157 yX9_product, Cond.instanceMethod yX9_product, Cond.selects RX9 yX9_product yX9_product, Cond.methodLink RX9 173 yX9_held, Cond.static yX9_held, Cond.code yX9_held cX9_held 3 (some .int), Cond.methodLink RX9 76 yX9_has, Cond.static yX9_has, Cond.code yX9_has cX9_has 2 (some .boolean), Cond.methodLink RX9 228 yX9_bits, Cond.static yX9_bits, Cond.code yX9_bits cX9_bits 3 (some .int), Cond.methodLink RX9 59 yX9_errs, Cond.instanceMethod yX9_errs, Cond.selects RX9 yX9_errs yX9_errs, Cond.code yX9_errs cX9_errs 2 (some .int), Cond.fieldLink RX9 22 "WheatCountsModel" "found" "[I"]
def wsX9_watch_r5 : List Cond := [Cond.constant RX9 53 (-1000000000)]
def wsX9_watch : List Cond := .code yX9_watch cX9_watch 5 (some .int) :: ((wsX9_watch_r1 ++ (wsX9_watch_r2 ++ (wsX9_watch_r3 ++ (wsX9_watch_r4 ++ wsX9_watch_r5)))) ++ wsX90)
def wsX9_hide_r1 : List Cond := [Cond.constant RX9 58 (-1000000001), Cond.fieldLink RX9 7 "WheatCountsModel" "row" "[I", Cond.constant RX9 204 (-1000000002), Cond.methodLink RX9 68 yX9_isCell, Cond.instanceMethod yX9_isCell, Cond.selects RX9 yX9_isCell yX9_isCell, Cond.initialized RX9, Cond.code yX9_isCell cX9_isCell 2 (some .boolean), Cond.methodLink RX9 54 yX9_in, Cond.static yX9_in, Cond.code yX9_in cX9_in 3 (some .boolean), Cond.methodLink RX9 59 yX9_errs, Cond.instanceMethod yX9_errs, Cond.selects RX9 yX9_errs yX9_errs, Cond.code yX9_errs cX9_errs 2 (some .int), Cond.fieldLink RX9 22 "WheatCountsModel" "found" "[I", Cond.constant RX9 53 (-1000000000), Cond.methodLink RX9 228 yX9_bits, Cond.static yX9_bits, Cond.code yX9_bits cX9_bits 3 (some .int), Cond.methodLink RX9 83 yX9_whoSees, Cond.instanceMethod yX9_whoSees, Cond.selects RX9 yX9_whoSees yX9_whoSees, Cond.code yX9_whoSees cX9_whoSees 4 (some .int)]
def wsX9_hide_r2 : List Cond := [Cond.methodLink RX9 73 yX9_seesOf, Cond.instanceMethod yX9_seesOf, Cond.selects RX9 yX9_seesOf yX9_seesOf, Cond.code yX9_seesOf cX9_seesOf 7 (some .int), Cond.methodLink RX9 80 yX9_its, Cond.instanceMethod yX9_its, Cond.selects RX9 yX9_its yX9_its, Cond.code yX9_its cX9_its 3 (some .int), Cond.methodLink RX9 97 yX9_sight, Cond.instanceMethod yX9_sight, Cond.selects RX9 yX9_sight yX9_sight, Cond.code yX9_sight cX9_sight 3 (some .int), Cond.methodLink RX9 177 yX9_lawOf, Cond.instanceMethod yX9_lawOf, Cond.selects RX9 yX9_lawOf yX9_lawOf, Cond.code yX9_lawOf cX9_lawOf 6 (some .int), Cond.methodLink RX9 169 yX9_walks, Cond.instanceMethod yX9_walks, Cond.selects RX9 yX9_walks yX9_walks, Cond.code yX9_walks cX9_walks 6 (some .int), Cond.fieldLink RX9 113 "WheatCountsModel" "use" "I", Cond.fieldLink RX9 120 "WheatCountsModel" "at" "I", Cond.fieldLink RX9 110 "WheatCountsModel" "end" "I", Cond.fieldLink RX9 148 "WheatCountsModel" "open" "I"]
def wsX9_hide_r3 : List Cond := [Cond.fieldLink RX9 116 "WheatCountsModel" "good" "Z", Cond.fieldLink RX9 133 "WheatCountsModel" "namedA" "I", Cond.fieldLink RX9 136 "WheatCountsModel" "namedB" "I", Cond.fieldLink RX9 139 "WheatCountsModel" "namedC" "I", Cond.methodLink RX9 154 yX9_whole, Cond.instanceMethod yX9_whole, Cond.selects RX9 yX9_whole yX9_whole, Cond.code yX9_whole cX9_whole 3 (some .int), Cond.methodLink RX9 166 yX9_both, Cond.instanceMethod yX9_both, Cond.selects RX9 yX9_both yX9_both, Cond.methodLink RX9 123 yX9_byteAt, Cond.instanceMethod yX9_byteAt, Cond.selects RX9 yX9_byteAt yX9_byteAt, Cond.code yX9_byteAt cX9_byteAt 2 (some .int), Cond.code yX9_both cX9_both 3 (some .int), Cond.methodLink RX9 163 yX9_compared, Cond.instanceMethod yX9_compared, Cond.selects RX9 yX9_compared yX9_compared, Cond.code yX9_compared cX9_compared 5 (some .int), Cond.methodLink RX9 160 yX9_sum, Cond.instanceMethod yX9_sum, Cond.selects RX9 yX9_sum yX9_sum, Cond.code yX9_factor cX9_factor 3 (some .int)]
def wsX9_hide_r4 : List Cond := [Cond.methodLink RX9 126 yX9_isDigit, Cond.static yX9_isDigit, Cond.code yX9_isDigit cX9_isDigit 1 (some .boolean), Cond.methodLink RX9 142 yX9_number, Cond.instanceMethod yX9_number, Cond.selects RX9 yX9_number yX9_number, Cond.code yX9_number cX9_number 3 (some .int), Cond.methodLink RX9 145 yX9_named, Cond.instanceMethod yX9_named, Cond.selects RX9 yX9_named yX9_named, Cond.code yX9_named cX9_named 5 (some .int), Cond.methodLink RX9 129 yX9_fails, Cond.instanceMethod yX9_fails, Cond.selects RX9 yX9_fails yX9_fails, Cond.code yX9_fails cX9_fails 1 (some .int), Cond.methodLink RX9 151 yX9_factor, Cond.instanceMethod yX9_factor, Cond.selects RX9 yX9_factor yX9_factor, Cond.code yX9_product cX9_product 4 (some .int), Cond.code yX9_sum cX9_sum 4 (some .int), Cond.methodLink RX9 157 yX9_product, Cond.instanceMethod yX9_product, Cond.selects RX9 yX9_product yX9_product, Cond.methodLink RX9 173 yX9_held]
def wsX9_hide_r5 : List Cond := [Cond.static yX9_held, Cond.code yX9_held cX9_held 3 (some .int), Cond.methodLink RX9 76 yX9_has, Cond.static yX9_has, Cond.code yX9_has cX9_has 2 (some .boolean)]
def wsX9_hide : List Cond := .code yX9_hide cX9_hide 5 (some .int) :: ((wsX9_hide_r1 ++ (wsX9_hide_r2 ++ (wsX9_hide_r3 ++ (wsX9_hide_r4 ++ wsX9_hide_r5)))) ++ wsX90)
def wsX9_gains_r1 : List Cond := [Cond.constant RX9 58 (-1000000001), Cond.fieldLink RX9 7 "WheatCountsModel" "row" "[I", Cond.fieldLink RX9 16 "WheatCountsModel" "tried" "[I", Cond.fieldLink RX9 25 "WheatCountsModel" "absent" "I", Cond.methodLink RX9 94 yX9_isPerson, Cond.instanceMethod yX9_isPerson, Cond.selects RX9 yX9_isPerson yX9_isPerson, Cond.initialized RX9, Cond.code yX9_isPerson cX9_isPerson 2 (some .boolean), Cond.methodLink RX9 54 yX9_in, Cond.static yX9_in, Cond.code yX9_in cX9_in 3 (some .boolean), Cond.methodLink RX9 59 yX9_errs, Cond.instanceMethod yX9_errs, Cond.selects RX9 yX9_errs yX9_errs, Cond.code yX9_errs cX9_errs 2 (some .int), Cond.fieldLink RX9 22 "WheatCountsModel" "found" "[I", Cond.constant RX9 53 (-1000000000), Cond.methodLink RX9 182 yX9_moveAll, Cond.instanceMethod yX9_moveAll, Cond.selects RX9 yX9_moveAll yX9_moveAll, Cond.code yX9_moveAll cX9_moveAll 4 none, Cond.methodLink RX9 193 yX9_passes, Cond.instanceMethod yX9_passes]
def wsX9_gains_r2 : List Cond := [Cond.selects RX9 yX9_passes yX9_passes, Cond.code yX9_passes cX9_passes 3 none, Cond.methodLink RX9 190 yX9_oneHour, Cond.instanceMethod yX9_oneHour, Cond.selects RX9 yX9_oneHour yX9_oneHour, Cond.code yX9_oneHour cX9_oneHour 4 none, Cond.fieldLink RX9 29 "WheatCountsModel" "counted" "[I", Cond.constant RX9 72 (99999), Cond.methodLink RX9 73 yX9_seesOf, Cond.instanceMethod yX9_seesOf, Cond.selects RX9 yX9_seesOf yX9_seesOf, Cond.code yX9_seesOf cX9_seesOf 7 (some .int), Cond.methodLink RX9 80 yX9_its, Cond.instanceMethod yX9_its, Cond.selects RX9 yX9_its yX9_its, Cond.code yX9_its cX9_its 3 (some .int), Cond.methodLink RX9 97 yX9_sight, Cond.instanceMethod yX9_sight, Cond.selects RX9 yX9_sight yX9_sight, Cond.code yX9_sight cX9_sight 3 (some .int), Cond.methodLink RX9 177 yX9_lawOf, Cond.instanceMethod yX9_lawOf, Cond.selects RX9 yX9_lawOf yX9_lawOf, Cond.code yX9_lawOf cX9_lawOf 6 (some .int)]
def wsX9_gains_r3 : List Cond := [Cond.methodLink RX9 169 yX9_walks, Cond.instanceMethod yX9_walks, Cond.selects RX9 yX9_walks yX9_walks, Cond.code yX9_walks cX9_walks 6 (some .int), Cond.fieldLink RX9 113 "WheatCountsModel" "use" "I", Cond.fieldLink RX9 120 "WheatCountsModel" "at" "I", Cond.fieldLink RX9 110 "WheatCountsModel" "end" "I", Cond.fieldLink RX9 148 "WheatCountsModel" "open" "I", Cond.fieldLink RX9 116 "WheatCountsModel" "good" "Z", Cond.fieldLink RX9 133 "WheatCountsModel" "namedA" "I", Cond.fieldLink RX9 136 "WheatCountsModel" "namedB" "I", Cond.fieldLink RX9 139 "WheatCountsModel" "namedC" "I", Cond.methodLink RX9 154 yX9_whole, Cond.instanceMethod yX9_whole, Cond.selects RX9 yX9_whole yX9_whole, Cond.code yX9_whole cX9_whole 3 (some .int), Cond.methodLink RX9 166 yX9_both, Cond.instanceMethod yX9_both, Cond.selects RX9 yX9_both yX9_both, Cond.methodLink RX9 123 yX9_byteAt, Cond.instanceMethod yX9_byteAt, Cond.selects RX9 yX9_byteAt yX9_byteAt, Cond.code yX9_byteAt cX9_byteAt 2 (some .int), Cond.code yX9_both cX9_both 3 (some .int)]
def wsX9_gains_r4 : List Cond := [Cond.methodLink RX9 163 yX9_compared, Cond.instanceMethod yX9_compared, Cond.selects RX9 yX9_compared yX9_compared, Cond.code yX9_compared cX9_compared 5 (some .int), Cond.methodLink RX9 160 yX9_sum, Cond.instanceMethod yX9_sum, Cond.selects RX9 yX9_sum yX9_sum, Cond.code yX9_factor cX9_factor 3 (some .int), Cond.methodLink RX9 126 yX9_isDigit, Cond.static yX9_isDigit, Cond.code yX9_isDigit cX9_isDigit 1 (some .boolean), Cond.methodLink RX9 142 yX9_number, Cond.instanceMethod yX9_number, Cond.selects RX9 yX9_number yX9_number, Cond.code yX9_number cX9_number 3 (some .int), Cond.methodLink RX9 145 yX9_named, Cond.instanceMethod yX9_named, Cond.selects RX9 yX9_named yX9_named, Cond.code yX9_named cX9_named 5 (some .int), Cond.methodLink RX9 129 yX9_fails, Cond.instanceMethod yX9_fails, Cond.selects RX9 yX9_fails yX9_fails, Cond.code yX9_fails cX9_fails 1 (some .int), Cond.methodLink RX9 151 yX9_factor]
def wsX9_gains_r5 : List Cond := [Cond.instanceMethod yX9_factor, Cond.selects RX9 yX9_factor yX9_factor, Cond.code yX9_product cX9_product 4 (some .int), Cond.code yX9_sum cX9_sum 4 (some .int), Cond.methodLink RX9 157 yX9_product, Cond.instanceMethod yX9_product, Cond.selects RX9 yX9_product yX9_product, Cond.methodLink RX9 173 yX9_held, Cond.static yX9_held, Cond.code yX9_held cX9_held 3 (some .int), Cond.methodLink RX9 76 yX9_has, Cond.static yX9_has, Cond.code yX9_has cX9_has 2 (some .boolean), Cond.methodLink RX9 100 yX9_counts, Cond.instanceMethod yX9_counts, Cond.selects RX9 yX9_counts yX9_counts, Cond.code yX9_counts cX9_counts 2 (some .int), Cond.methodLink RX9 186 yX9_takesAndGoes, Cond.instanceMethod yX9_takesAndGoes, Cond.selects RX9 yX9_takesAndGoes yX9_takesAndGoes, Cond.code yX9_takesAndGoes cX9_takesAndGoes 5 none, Cond.methodLink RX9 103 yX9_takes, Cond.instanceMethod yX9_takes, Cond.selects RX9 yX9_takes yX9_takes]
def wsX9_gains_r6 : List Cond := [Cond.code yX9_takes cX9_takes 4 (some .int), Cond.methodLink RX9 68 yX9_isCell, Cond.instanceMethod yX9_isCell, Cond.selects RX9 yX9_isCell yX9_isCell, Cond.code yX9_isCell cX9_isCell 2 (some .boolean), Cond.methodLink RX9 90 yX9_gets, Cond.instanceMethod yX9_gets, Cond.selects RX9 yX9_gets yX9_gets, Cond.code yX9_gets cX9_gets 4 none, Cond.methodLink RX9 196 yX9_grains, Cond.instanceMethod yX9_grains, Cond.selects RX9 yX9_grains yX9_grains, Cond.code yX9_grains cX9_grains 3 (some .int)]
def wsX9_gains : List Cond := .code yX9_gains cX9_gains 5 (some .int) :: ((wsX9_gains_r1 ++ (wsX9_gains_r2 ++ (wsX9_gains_r3 ++ (wsX9_gains_r4 ++ (wsX9_gains_r5 ++ wsX9_gains_r6))))) ++ wsX90)
def wsX9_divisor : List Cond := .code yX9_divisor cX9_divisor 5 (some .int) :: ([])
def wsX9_odds_r1 : List Cond := [Cond.constant RX9 58 (-1000000001), Cond.fieldLink RX9 7 "WheatCountsModel" "row" "[I", Cond.methodLink RX9 68 yX9_isCell, Cond.instanceMethod yX9_isCell, Cond.selects RX9 yX9_isCell yX9_isCell, Cond.initialized RX9, Cond.code yX9_isCell cX9_isCell 2 (some .boolean), Cond.methodLink RX9 54 yX9_in, Cond.static yX9_in, Cond.code yX9_in cX9_in 3 (some .boolean), Cond.methodLink RX9 59 yX9_errs, Cond.instanceMethod yX9_errs, Cond.selects RX9 yX9_errs yX9_errs, Cond.code yX9_errs cX9_errs 2 (some .int), Cond.fieldLink RX9 22 "WheatCountsModel" "found" "[I", Cond.constant RX9 53 (-1000000000), Cond.methodLink RX9 83 yX9_whoSees, Cond.instanceMethod yX9_whoSees, Cond.selects RX9 yX9_whoSees yX9_whoSees, Cond.code yX9_whoSees cX9_whoSees 4 (some .int), Cond.methodLink RX9 73 yX9_seesOf, Cond.instanceMethod yX9_seesOf, Cond.selects RX9 yX9_seesOf yX9_seesOf, Cond.code yX9_seesOf cX9_seesOf 7 (some .int)]
def wsX9_odds_r2 : List Cond := [Cond.methodLink RX9 80 yX9_its, Cond.instanceMethod yX9_its, Cond.selects RX9 yX9_its yX9_its, Cond.code yX9_its cX9_its 3 (some .int), Cond.methodLink RX9 97 yX9_sight, Cond.instanceMethod yX9_sight, Cond.selects RX9 yX9_sight yX9_sight, Cond.code yX9_sight cX9_sight 3 (some .int), Cond.methodLink RX9 177 yX9_lawOf, Cond.instanceMethod yX9_lawOf, Cond.selects RX9 yX9_lawOf yX9_lawOf, Cond.code yX9_lawOf cX9_lawOf 6 (some .int), Cond.methodLink RX9 169 yX9_walks, Cond.instanceMethod yX9_walks, Cond.selects RX9 yX9_walks yX9_walks, Cond.code yX9_walks cX9_walks 6 (some .int), Cond.fieldLink RX9 113 "WheatCountsModel" "use" "I", Cond.fieldLink RX9 120 "WheatCountsModel" "at" "I", Cond.fieldLink RX9 110 "WheatCountsModel" "end" "I", Cond.fieldLink RX9 148 "WheatCountsModel" "open" "I", Cond.fieldLink RX9 116 "WheatCountsModel" "good" "Z", Cond.fieldLink RX9 133 "WheatCountsModel" "namedA" "I", Cond.fieldLink RX9 136 "WheatCountsModel" "namedB" "I", Cond.fieldLink RX9 139 "WheatCountsModel" "namedC" "I"]
def wsX9_odds_r3 : List Cond := [Cond.methodLink RX9 154 yX9_whole, Cond.instanceMethod yX9_whole, Cond.selects RX9 yX9_whole yX9_whole, Cond.code yX9_whole cX9_whole 3 (some .int), Cond.methodLink RX9 166 yX9_both, Cond.instanceMethod yX9_both, Cond.selects RX9 yX9_both yX9_both, Cond.methodLink RX9 123 yX9_byteAt, Cond.instanceMethod yX9_byteAt, Cond.selects RX9 yX9_byteAt yX9_byteAt, Cond.code yX9_byteAt cX9_byteAt 2 (some .int), Cond.code yX9_both cX9_both 3 (some .int), Cond.methodLink RX9 163 yX9_compared, Cond.instanceMethod yX9_compared, Cond.selects RX9 yX9_compared yX9_compared, Cond.code yX9_compared cX9_compared 5 (some .int), Cond.methodLink RX9 160 yX9_sum, Cond.instanceMethod yX9_sum, Cond.selects RX9 yX9_sum yX9_sum, Cond.code yX9_factor cX9_factor 3 (some .int), Cond.methodLink RX9 126 yX9_isDigit, Cond.static yX9_isDigit, Cond.code yX9_isDigit cX9_isDigit 1 (some .boolean), Cond.methodLink RX9 142 yX9_number]
def wsX9_odds_r4 : List Cond := [Cond.instanceMethod yX9_number, Cond.selects RX9 yX9_number yX9_number, Cond.code yX9_number cX9_number 3 (some .int), Cond.methodLink RX9 145 yX9_named, Cond.instanceMethod yX9_named, Cond.selects RX9 yX9_named yX9_named, Cond.code yX9_named cX9_named 5 (some .int), Cond.methodLink RX9 129 yX9_fails, Cond.instanceMethod yX9_fails, Cond.selects RX9 yX9_fails yX9_fails, Cond.code yX9_fails cX9_fails 1 (some .int), Cond.methodLink RX9 151 yX9_factor, Cond.instanceMethod yX9_factor, Cond.selects RX9 yX9_factor yX9_factor, Cond.code yX9_product cX9_product 4 (some .int), Cond.code yX9_sum cX9_sum 4 (some .int), Cond.methodLink RX9 157 yX9_product, Cond.instanceMethod yX9_product, Cond.selects RX9 yX9_product yX9_product, Cond.methodLink RX9 173 yX9_held, Cond.static yX9_held, Cond.code yX9_held cX9_held 3 (some .int), Cond.methodLink RX9 76 yX9_has, Cond.static yX9_has]
def wsX9_odds_r5 : List Cond := [Cond.code yX9_has cX9_has 2 (some .boolean), Cond.methodLink RX9 231 yX9_divisor, Cond.static yX9_divisor, Cond.code yX9_divisor cX9_divisor 5 (some .int)]
def wsX9_odds : List Cond := .code yX9_odds cX9_odds 6 (some .int) :: ((wsX9_odds_r1 ++ (wsX9_odds_r2 ++ (wsX9_odds_r3 ++ (wsX9_odds_r4 ++ wsX9_odds_r5)))) ++ wsX90)
def wsX9_seed : List Cond := .code yX9_seed cX9_seed 3 (some .int) :: ([.fieldLink RX9 7 "WheatCountsModel" "row" "[I"] ++ wsX90)
def wsX9_ran : List Cond := .code yX9_ran cX9_ran 2 none :: ([.fieldLink RX9 234 "WheatCountsModel" "tracedMany" "I", .fieldLink RX9 50 "WheatCountsModel" "traced" "[I"] ++ wsX90)
def wsX9_looksIn : List Cond := .code yX9_looksIn cX9_looksIn 3 (some .int) :: ([.fieldLink RX9 240 "WheatCountsModel" "voiceN" "I", .methodLink RX9 237 yX9_ran, .instanceMethod yX9_ran, .selects RX9 yX9_ran yX9_ran, .initialized RX9, .code yX9_ran cX9_ran 2 none, .fieldLink RX9 234 "WheatCountsModel" "tracedMany" "I", .fieldLink RX9 50 "WheatCountsModel" "traced" "[I", .methodLink RX9 243 yX9_looksIn, .instanceMethod yX9_looksIn, .selects RX9 yX9_looksIn yX9_looksIn, .methodLink RX9 106 yX9_above, .static yX9_above, .code yX9_above cX9_above 1 (some .int)] ++ wsX90)
def wsX9_glancesIn : List Cond := .code yX9_glancesIn cX9_glancesIn 3 (some .int) :: ([.fieldLink RX9 246 "WheatCountsModel" "voiceM" "I", .fieldLink RX9 240 "WheatCountsModel" "voiceN" "I", .methodLink RX9 237 yX9_ran, .instanceMethod yX9_ran, .selects RX9 yX9_ran yX9_ran, .initialized RX9, .code yX9_ran cX9_ran 2 none, .fieldLink RX9 234 "WheatCountsModel" "tracedMany" "I", .fieldLink RX9 50 "WheatCountsModel" "traced" "[I", .methodLink RX9 249 yX9_glancesIn, .instanceMethod yX9_glancesIn, .selects RX9 yX9_glancesIn yX9_glancesIn, .methodLink RX9 106 yX9_above, .static yX9_above, .code yX9_above cX9_above 1 (some .int)] ++ wsX90)
def wsX9_addsIn : List Cond := .code yX9_addsIn cX9_addsIn 4 (some .int) :: ([.fieldLink RX9 252 "WheatCountsModel" "voiceKind" "I", .methodLink RX9 237 yX9_ran, .instanceMethod yX9_ran, .selects RX9 yX9_ran yX9_ran, .initialized RX9, .code yX9_ran cX9_ran 2 none, .fieldLink RX9 234 "WheatCountsModel" "tracedMany" "I", .fieldLink RX9 50 "WheatCountsModel" "traced" "[I", .methodLink RX9 243 yX9_looksIn, .instanceMethod yX9_looksIn, .selects RX9 yX9_looksIn yX9_looksIn, .code yX9_looksIn cX9_looksIn 3 (some .int), .fieldLink RX9 240 "WheatCountsModel" "voiceN" "I", .methodLink RX9 106 yX9_above, .static yX9_above, .code yX9_above cX9_above 1 (some .int), .methodLink RX9 255 yX9_addsIn, .instanceMethod yX9_addsIn, .selects RX9 yX9_addsIn yX9_addsIn, .methodLink RX9 249 yX9_glancesIn, .instanceMethod yX9_glancesIn, .selects RX9 yX9_glancesIn yX9_glancesIn, .code yX9_glancesIn cX9_glancesIn 3 (some .int), .fieldLink RX9 246 "WheatCountsModel" "voiceM" "I"] ++ wsX90)
def wsX9_provesIn_r1 : List Cond := [Cond.fieldLink RX9 252 "WheatCountsModel" "voiceKind" "I", Cond.methodLink RX9 237 yX9_ran, Cond.instanceMethod yX9_ran, Cond.selects RX9 yX9_ran yX9_ran, Cond.initialized RX9, Cond.code yX9_ran cX9_ran 2 none, Cond.fieldLink RX9 234 "WheatCountsModel" "tracedMany" "I", Cond.fieldLink RX9 50 "WheatCountsModel" "traced" "[I", Cond.methodLink RX9 255 yX9_addsIn, Cond.instanceMethod yX9_addsIn, Cond.selects RX9 yX9_addsIn yX9_addsIn, Cond.code yX9_addsIn cX9_addsIn 4 (some .int), Cond.methodLink RX9 243 yX9_looksIn, Cond.instanceMethod yX9_looksIn, Cond.selects RX9 yX9_looksIn yX9_looksIn, Cond.code yX9_looksIn cX9_looksIn 3 (some .int), Cond.fieldLink RX9 240 "WheatCountsModel" "voiceN" "I", Cond.methodLink RX9 106 yX9_above, Cond.static yX9_above, Cond.code yX9_above cX9_above 1 (some .int), Cond.methodLink RX9 249 yX9_glancesIn, Cond.instanceMethod yX9_glancesIn, Cond.selects RX9 yX9_glancesIn yX9_glancesIn, Cond.code yX9_glancesIn cX9_glancesIn 3 (some .int)]
def wsX9_provesIn_r2 : List Cond := [Cond.fieldLink RX9 246 "WheatCountsModel" "voiceM" "I", Cond.methodLink RX9 258 yX9_provesIn, Cond.instanceMethod yX9_provesIn, Cond.selects RX9 yX9_provesIn yX9_provesIn]
def wsX9_provesIn : List Cond := .code yX9_provesIn cX9_provesIn 4 (some .int) :: ((wsX9_provesIn_r1 ++ wsX9_provesIn_r2) ++ wsX90)
def wsX9_voice_r1 : List Cond := [Cond.constant RX9 58 (-1000000001), Cond.fieldLink RX9 234 "WheatCountsModel" "tracedMany" "I", Cond.fieldLink RX9 252 "WheatCountsModel" "voiceKind" "I", Cond.fieldLink RX9 240 "WheatCountsModel" "voiceN" "I", Cond.fieldLink RX9 246 "WheatCountsModel" "voiceM" "I", Cond.methodLink RX9 94 yX9_isPerson, Cond.instanceMethod yX9_isPerson, Cond.selects RX9 yX9_isPerson yX9_isPerson, Cond.initialized RX9, Cond.code yX9_isPerson cX9_isPerson 2 (some .boolean), Cond.fieldLink RX9 7 "WheatCountsModel" "row" "[I", Cond.methodLink RX9 54 yX9_in, Cond.static yX9_in, Cond.code yX9_in cX9_in 3 (some .boolean), Cond.methodLink RX9 59 yX9_errs, Cond.instanceMethod yX9_errs, Cond.selects RX9 yX9_errs yX9_errs, Cond.code yX9_errs cX9_errs 2 (some .int), Cond.fieldLink RX9 22 "WheatCountsModel" "found" "[I", Cond.constant RX9 53 (-1000000000), Cond.methodLink RX9 80 yX9_its, Cond.instanceMethod yX9_its, Cond.selects RX9 yX9_its yX9_its, Cond.code yX9_its cX9_its 3 (some .int)]
def wsX9_voice_r2 : List Cond := [Cond.methodLink RX9 243 yX9_looksIn, Cond.instanceMethod yX9_looksIn, Cond.selects RX9 yX9_looksIn yX9_looksIn, Cond.code yX9_looksIn cX9_looksIn 3 (some .int), Cond.methodLink RX9 237 yX9_ran, Cond.instanceMethod yX9_ran, Cond.selects RX9 yX9_ran yX9_ran, Cond.code yX9_ran cX9_ran 2 none, Cond.fieldLink RX9 50 "WheatCountsModel" "traced" "[I", Cond.methodLink RX9 106 yX9_above, Cond.static yX9_above, Cond.code yX9_above cX9_above 1 (some .int), Cond.methodLink RX9 255 yX9_addsIn, Cond.instanceMethod yX9_addsIn, Cond.selects RX9 yX9_addsIn yX9_addsIn, Cond.code yX9_addsIn cX9_addsIn 4 (some .int), Cond.methodLink RX9 249 yX9_glancesIn, Cond.instanceMethod yX9_glancesIn, Cond.selects RX9 yX9_glancesIn yX9_glancesIn, Cond.code yX9_glancesIn cX9_glancesIn 3 (some .int), Cond.methodLink RX9 258 yX9_provesIn, Cond.instanceMethod yX9_provesIn, Cond.selects RX9 yX9_provesIn yX9_provesIn, Cond.code yX9_provesIn cX9_provesIn 4 (some .int)]
def wsX9_voice : List Cond := .code yX9_voice cX9_voice 4 (some .int) :: ((wsX9_voice_r1 ++ wsX9_voice_r2) ++ wsX90)
def wsX9_trace : List Cond := .code yX9_trace cX9_trace 2 (some .int) :: ([.fieldLink RX9 234 "WheatCountsModel" "tracedMany" "I", .fieldLink RX9 50 "WheatCountsModel" "traced" "[I", .constant RX9 204 (-1000000002), .methodLink RX9 54 yX9_in, .static yX9_in, .initialized RX9, .code yX9_in cX9_in 3 (some .boolean), .methodLink RX9 59 yX9_errs, .instanceMethod yX9_errs, .selects RX9 yX9_errs yX9_errs, .code yX9_errs cX9_errs 2 (some .int), .fieldLink RX9 22 "WheatCountsModel" "found" "[I", .constant RX9 53 (-1000000000)] ++ wsX90)
def wsX9_narrow : List Cond := .code yX9_narrow cX9_narrow 2 (some .int) :: ([])
def wsX9_sheet : List Cond := .code yX9_sheet cX9_sheet 5 (some .int) :: ([.constant RX9 58 (-1000000001), .constant RX9 63 (-1000000003), .fieldLink RX9 35 "WheatCountsModel" "bitsOf" "[I", .fieldLink RX9 38 "WheatCountsModel" "sizeOf" "[I", .fieldLink RX9 41 "WheatCountsModel" "sheets" "[I", .methodLink RX9 219 yX9_isSheet, .static yX9_isSheet, .initialized RX9, .code yX9_isSheet cX9_isSheet 1 (some .boolean), .methodLink RX9 54 yX9_in, .static yX9_in, .code yX9_in cX9_in 3 (some .boolean), .methodLink RX9 59 yX9_errs, .instanceMethod yX9_errs, .selects RX9 yX9_errs yX9_errs, .code yX9_errs cX9_errs 2 (some .int), .fieldLink RX9 22 "WheatCountsModel" "found" "[I", .constant RX9 53 (-1000000000)] ++ wsX90)
def wsX9_put : List Cond := .code yX9_put cX9_put 4 (some .int) :: ([.constant RX9 58 (-1000000001), .fieldLink RX9 35 "WheatCountsModel" "bitsOf" "[I", .constant RX9 204 (-1000000002), .fieldLink RX9 38 "WheatCountsModel" "sizeOf" "[I", .fieldLink RX9 41 "WheatCountsModel" "sheets" "[I", .methodLink RX9 219 yX9_isSheet, .static yX9_isSheet, .initialized RX9, .code yX9_isSheet cX9_isSheet 1 (some .boolean), .methodLink RX9 54 yX9_in, .static yX9_in, .code yX9_in cX9_in 3 (some .boolean), .methodLink RX9 59 yX9_errs, .instanceMethod yX9_errs, .selects RX9 yX9_errs yX9_errs, .code yX9_errs cX9_errs 2 (some .int), .fieldLink RX9 22 "WheatCountsModel" "found" "[I", .constant RX9 53 (-1000000000), .methodLink RX9 261 yX9_narrow, .static yX9_narrow, .code yX9_narrow cX9_narrow 2 (some .int)] ++ wsX90)
def wsX9_move : List Cond := .code yX9_move cX9_move 7 (some .int) :: ([.constant RX9 58 (-1000000001), .fieldLink RX9 35 "WheatCountsModel" "bitsOf" "[I", .constant RX9 204 (-1000000002), .constant RX9 109 (-1000000005), .fieldLink RX9 38 "WheatCountsModel" "sizeOf" "[I", .fieldLink RX9 44 "WheatCountsModel" "moved" "[I", .fieldLink RX9 41 "WheatCountsModel" "sheets" "[I", .methodLink RX9 219 yX9_isSheet, .static yX9_isSheet, .initialized RX9, .code yX9_isSheet cX9_isSheet 1 (some .boolean), .methodLink RX9 54 yX9_in, .static yX9_in, .code yX9_in cX9_in 3 (some .boolean), .methodLink RX9 59 yX9_errs, .instanceMethod yX9_errs, .selects RX9 yX9_errs yX9_errs, .code yX9_errs cX9_errs 2 (some .int), .fieldLink RX9 22 "WheatCountsModel" "found" "[I", .constant RX9 53 (-1000000000)] ++ wsX90)
def wsX9_weeds : List Cond := .code yX9_weeds cX9_weeds 3 (some .int) :: ([.constant RX9 58 (-1000000001), .fieldLink RX9 35 "WheatCountsModel" "bitsOf" "[I", .constant RX9 204 (-1000000002), .fieldLink RX9 38 "WheatCountsModel" "sizeOf" "[I", .fieldLink RX9 41 "WheatCountsModel" "sheets" "[I", .fieldLink RX9 7 "WheatCountsModel" "row" "[I", .methodLink RX9 219 yX9_isSheet, .static yX9_isSheet, .initialized RX9, .code yX9_isSheet cX9_isSheet 1 (some .boolean), .methodLink RX9 54 yX9_in, .static yX9_in, .code yX9_in cX9_in 3 (some .boolean), .methodLink RX9 59 yX9_errs, .instanceMethod yX9_errs, .selects RX9 yX9_errs yX9_errs, .code yX9_errs cX9_errs 2 (some .int), .fieldLink RX9 22 "WheatCountsModel" "found" "[I", .constant RX9 53 (-1000000000), .methodLink RX9 68 yX9_isCell, .instanceMethod yX9_isCell, .selects RX9 yX9_isCell yX9_isCell, .code yX9_isCell cX9_isCell 2 (some .boolean)] ++ wsX90)
def wsX9_judge : List Cond := .code yX9_judge cX9_judge 3 (some .int) :: ([.constant RX9 58 (-1000000001), .fieldLink RX9 35 "WheatCountsModel" "bitsOf" "[I", .constant RX9 204 (-1000000002), .fieldLink RX9 7 "WheatCountsModel" "row" "[I", .fieldLink RX9 38 "WheatCountsModel" "sizeOf" "[I", .fieldLink RX9 41 "WheatCountsModel" "sheets" "[I", .methodLink RX9 219 yX9_isSheet, .static yX9_isSheet, .initialized RX9, .code yX9_isSheet cX9_isSheet 1 (some .boolean), .methodLink RX9 54 yX9_in, .static yX9_in, .code yX9_in cX9_in 3 (some .boolean), .methodLink RX9 59 yX9_errs, .instanceMethod yX9_errs, .selects RX9 yX9_errs yX9_errs, .code yX9_errs cX9_errs 2 (some .int), .fieldLink RX9 22 "WheatCountsModel" "found" "[I", .constant RX9 53 (-1000000000)] ++ wsX90)
def wsX9_image : List Cond := .code yX9_image cX9_image 1 (some .int) :: ([.fieldLink RX9 7 "WheatCountsModel" "row" "[I", .fieldLink RX9 13 "WheatCountsModel" "kept" "[I", .fieldLink RX9 264 "WheatCountsModel" "isKept" "Z", .fieldLink RX9 267 "WheatCountsModel" "images" "I", .methodLink RX9 182 yX9_moveAll, .instanceMethod yX9_moveAll, .selects RX9 yX9_moveAll yX9_moveAll, .initialized RX9, .code yX9_moveAll cX9_moveAll 4 none] ++ wsX90)
def wsX9_restore : List Cond := .code yX9_restore cX9_restore 1 (some .int) :: ([.fieldLink RX9 264 "WheatCountsModel" "isKept" "Z", .constant RX9 204 (-1000000002), .fieldLink RX9 13 "WheatCountsModel" "kept" "[I", .fieldLink RX9 7 "WheatCountsModel" "row" "[I", .methodLink RX9 59 yX9_errs, .instanceMethod yX9_errs, .selects RX9 yX9_errs yX9_errs, .initialized RX9, .code yX9_errs cX9_errs 2 (some .int), .fieldLink RX9 22 "WheatCountsModel" "found" "[I", .constant RX9 53 (-1000000000), .methodLink RX9 182 yX9_moveAll, .instanceMethod yX9_moveAll, .selects RX9 yX9_moveAll yX9_moveAll, .code yX9_moveAll cX9_moveAll 4 none] ++ wsX90)
def wsX9_tell : List Cond := .code yX9_tell cX9_tell 2 (some .int) :: ([.fieldLink RX9 7 "WheatCountsModel" "row" "[I", .constant RX9 89 (-1000000004), .methodLink RX9 59 yX9_errs, .instanceMethod yX9_errs, .selects RX9 yX9_errs yX9_errs, .initialized RX9, .code yX9_errs cX9_errs 2 (some .int), .fieldLink RX9 22 "WheatCountsModel" "found" "[I", .constant RX9 53 (-1000000000)] ++ wsX90)
def wsX9_check_r1 : List Cond := [Cond.fieldLink RX9 7 "WheatCountsModel" "row" "[I", Cond.fieldLink RX9 16 "WheatCountsModel" "tried" "[I", Cond.methodLink RX9 182 yX9_moveAll, Cond.instanceMethod yX9_moveAll, Cond.selects RX9 yX9_moveAll yX9_moveAll, Cond.initialized RX9, Cond.code yX9_moveAll cX9_moveAll 4 none, Cond.methodLink RX9 190 yX9_oneHour, Cond.instanceMethod yX9_oneHour, Cond.selects RX9 yX9_oneHour yX9_oneHour, Cond.code yX9_oneHour cX9_oneHour 4 none, Cond.fieldLink RX9 29 "WheatCountsModel" "counted" "[I", Cond.fieldLink RX9 25 "WheatCountsModel" "absent" "I", Cond.constant RX9 72 (99999), Cond.methodLink RX9 73 yX9_seesOf, Cond.instanceMethod yX9_seesOf, Cond.selects RX9 yX9_seesOf yX9_seesOf, Cond.code yX9_seesOf cX9_seesOf 7 (some .int), Cond.methodLink RX9 80 yX9_its, Cond.instanceMethod yX9_its, Cond.selects RX9 yX9_its yX9_its, Cond.code yX9_its cX9_its 3 (some .int), Cond.methodLink RX9 97 yX9_sight, Cond.instanceMethod yX9_sight]
def wsX9_check_r2 : List Cond := [Cond.selects RX9 yX9_sight yX9_sight, Cond.code yX9_sight cX9_sight 3 (some .int), Cond.methodLink RX9 177 yX9_lawOf, Cond.instanceMethod yX9_lawOf, Cond.selects RX9 yX9_lawOf yX9_lawOf, Cond.code yX9_lawOf cX9_lawOf 6 (some .int), Cond.methodLink RX9 169 yX9_walks, Cond.instanceMethod yX9_walks, Cond.selects RX9 yX9_walks yX9_walks, Cond.code yX9_walks cX9_walks 6 (some .int), Cond.fieldLink RX9 113 "WheatCountsModel" "use" "I", Cond.fieldLink RX9 120 "WheatCountsModel" "at" "I", Cond.fieldLink RX9 110 "WheatCountsModel" "end" "I", Cond.fieldLink RX9 148 "WheatCountsModel" "open" "I", Cond.fieldLink RX9 116 "WheatCountsModel" "good" "Z", Cond.fieldLink RX9 133 "WheatCountsModel" "namedA" "I", Cond.fieldLink RX9 136 "WheatCountsModel" "namedB" "I", Cond.fieldLink RX9 139 "WheatCountsModel" "namedC" "I", Cond.methodLink RX9 154 yX9_whole, Cond.instanceMethod yX9_whole, Cond.selects RX9 yX9_whole yX9_whole, Cond.code yX9_whole cX9_whole 3 (some .int), Cond.methodLink RX9 166 yX9_both, Cond.instanceMethod yX9_both]
def wsX9_check_r3 : List Cond := [Cond.selects RX9 yX9_both yX9_both, Cond.methodLink RX9 123 yX9_byteAt, Cond.instanceMethod yX9_byteAt, Cond.selects RX9 yX9_byteAt yX9_byteAt, Cond.code yX9_byteAt cX9_byteAt 2 (some .int), Cond.code yX9_both cX9_both 3 (some .int), Cond.methodLink RX9 163 yX9_compared, Cond.instanceMethod yX9_compared, Cond.selects RX9 yX9_compared yX9_compared, Cond.code yX9_compared cX9_compared 5 (some .int), Cond.methodLink RX9 160 yX9_sum, Cond.instanceMethod yX9_sum, Cond.selects RX9 yX9_sum yX9_sum, Cond.code yX9_factor cX9_factor 3 (some .int), Cond.methodLink RX9 126 yX9_isDigit, Cond.static yX9_isDigit, Cond.code yX9_isDigit cX9_isDigit 1 (some .boolean), Cond.methodLink RX9 54 yX9_in, Cond.static yX9_in, Cond.code yX9_in cX9_in 3 (some .boolean), Cond.methodLink RX9 142 yX9_number, Cond.instanceMethod yX9_number, Cond.selects RX9 yX9_number yX9_number, Cond.code yX9_number cX9_number 3 (some .int)]
def wsX9_check_r4 : List Cond := [Cond.methodLink RX9 145 yX9_named, Cond.instanceMethod yX9_named, Cond.selects RX9 yX9_named yX9_named, Cond.code yX9_named cX9_named 5 (some .int), Cond.methodLink RX9 129 yX9_fails, Cond.instanceMethod yX9_fails, Cond.selects RX9 yX9_fails yX9_fails, Cond.code yX9_fails cX9_fails 1 (some .int), Cond.methodLink RX9 151 yX9_factor, Cond.instanceMethod yX9_factor, Cond.selects RX9 yX9_factor yX9_factor, Cond.code yX9_product cX9_product 4 (some .int), Cond.code yX9_sum cX9_sum 4 (some .int), Cond.methodLink RX9 157 yX9_product, Cond.instanceMethod yX9_product, Cond.selects RX9 yX9_product yX9_product, Cond.methodLink RX9 173 yX9_held, Cond.static yX9_held, Cond.code yX9_held cX9_held 3 (some .int), Cond.methodLink RX9 76 yX9_has, Cond.static yX9_has, Cond.code yX9_has cX9_has 2 (some .boolean), Cond.methodLink RX9 100 yX9_counts, Cond.instanceMethod yX9_counts]
def wsX9_check_r5 : List Cond := [Cond.selects RX9 yX9_counts yX9_counts, Cond.code yX9_counts cX9_counts 2 (some .int), Cond.methodLink RX9 186 yX9_takesAndGoes, Cond.instanceMethod yX9_takesAndGoes, Cond.selects RX9 yX9_takesAndGoes yX9_takesAndGoes, Cond.code yX9_takesAndGoes cX9_takesAndGoes 5 none, Cond.methodLink RX9 103 yX9_takes, Cond.instanceMethod yX9_takes, Cond.selects RX9 yX9_takes yX9_takes, Cond.code yX9_takes cX9_takes 4 (some .int), Cond.methodLink RX9 68 yX9_isCell, Cond.instanceMethod yX9_isCell, Cond.selects RX9 yX9_isCell yX9_isCell, Cond.code yX9_isCell cX9_isCell 2 (some .boolean), Cond.methodLink RX9 90 yX9_gets, Cond.instanceMethod yX9_gets, Cond.selects RX9 yX9_gets yX9_gets, Cond.code yX9_gets cX9_gets 4 none, Cond.methodLink RX9 196 yX9_grains, Cond.instanceMethod yX9_grains, Cond.selects RX9 yX9_grains yX9_grains, Cond.code yX9_grains cX9_grains 3 (some .int)]
def wsX9_check : List Cond := .code yX9_check cX9_check 4 (some .int) :: ((wsX9_check_r1 ++ (wsX9_check_r2 ++ (wsX9_check_r3 ++ (wsX9_check_r4 ++ wsX9_check_r5)))) ++ wsX90)
def wsX9_count : List Cond := .code yX9_count cX9_count 2 (some .int) :: ([.fieldLink RX9 7 "WheatCountsModel" "row" "[I", .fieldLink RX9 234 "WheatCountsModel" "tracedMany" "I", .constant RX9 58 (-1000000001), .methodLink RX9 196 yX9_grains, .instanceMethod yX9_grains, .selects RX9 yX9_grains yX9_grains, .initialized RX9, .code yX9_grains cX9_grains 3 (some .int), .methodLink RX9 59 yX9_errs, .instanceMethod yX9_errs, .selects RX9 yX9_errs yX9_errs, .code yX9_errs cX9_errs 2 (some .int), .fieldLink RX9 22 "WheatCountsModel" "found" "[I", .constant RX9 53 (-1000000000)] ++ wsX90)
def wsX9_told : List Cond := .code yX9_told cX9_told 2 (some .int) :: ([.fieldLink RX9 22 "WheatCountsModel" "found" "[I", .constant RX9 58 (-1000000001), .methodLink RX9 54 yX9_in, .static yX9_in, .initialized RX9, .code yX9_in cX9_in 3 (some .boolean), .methodLink RX9 59 yX9_errs, .instanceMethod yX9_errs, .selects RX9 yX9_errs yX9_errs, .code yX9_errs cX9_errs 2 (some .int), .constant RX9 53 (-1000000000)] ++ wsX90)
def wsJ9_max_7cf53 : List Cond := .code yJ9_max_7cf53 cJ9_max_7cf53 2 (some .int) :: ([])
def wsJ9_min_7cf53 : List Cond := .code yJ9_min_7cf53 cJ9_min_7cf53 2 (some .int) :: ([])
set_option maxRecDepth 20000 in
theorem ggX0_init_X4_init : GoodIn wsX0_init wsX4_init := goodIn_r _ [21, 22, 2, 3, 23, 24, 25, 26, 5, 27, 47, 48] (by decide +kernel) (by decide +kernel)
set_option maxRecDepth 20000 in
theorem gX0_init_X4_init : GoodIn wsX0_init (wsX4_init) := ggX0_init_X4_init
theorem dX0_init_0 : decode cX0_init 0 = .ok (.aload_n 0, 1) := by decide +kernel
theorem dX0_init_1 : decode cX0_init 1 = .ok (.invokespecial 3, 3) := by decide +kernel
theorem dX0_init_4 : decode cX0_init 4 = .ok (.aload_n 0, 1) := by decide +kernel
theorem dX0_init_5 : decode cX0_init 5 = .ok (.bipush 6, 2) := by decide +kernel
theorem dX0_init_7 : decode cX0_init 7 = .ok (.putfield 9, 3) := by decide +kernel
theorem dX0_init_10 : decode cX0_init 10 = .ok (.aload_n 0, 1) := by decide +kernel
theorem dX0_init_11 : decode cX0_init 11 = .ok (.bipush 10, 2) := by decide +kernel
theorem dX0_init_13 : decode cX0_init 13 = .ok (.newarray .int, 2) := by decide +kernel
theorem dX0_init_15 : decode cX0_init 15 = .ok (.putfield 15, 3) := by decide +kernel
theorem dX0_init_18 : decode cX0_init 18 = .ok (.aload_n 0, 1) := by decide +kernel
theorem dX0_init_19 : decode cX0_init 19 = .ok (.bipush 10, 2) := by decide +kernel
theorem dX0_init_21 : decode cX0_init 21 = .ok (.newarray .int, 2) := by decide +kernel
theorem dX0_init_23 : decode cX0_init 23 = .ok (.putfield 19, 3) := by decide +kernel
theorem dX0_init_26 : decode cX0_init 26 = .ok (.aload_n 0, 1) := by decide +kernel
theorem dX0_init_27 : decode cX0_init 27 = .ok (.bipush 10, 2) := by decide +kernel
theorem dX0_init_29 : decode cX0_init 29 = .ok (.newarray .int, 2) := by decide +kernel
theorem dX0_init_31 : decode cX0_init 31 = .ok (.putfield 22, 3) := by decide +kernel
theorem dX0_init_34 : decode cX0_init 34 = .ok (.aload_n 0, 1) := by decide +kernel
theorem dX0_init_35 : decode cX0_init 35 = .ok (.bipush 8, 2) := by decide +kernel
theorem dX0_init_37 : decode cX0_init 37 = .ok (.newarray .int, 2) := by decide +kernel
theorem dX0_init_39 : decode cX0_init 39 = .ok (.putfield 25, 3) := by decide +kernel
theorem dX0_init_42 : decode cX0_init 42 = .ok (.aload_n 0, 1) := by decide +kernel
theorem dX0_init_43 : decode cX0_init 43 = .ok (.bipush 8, 2) := by decide +kernel
theorem dX0_init_45 : decode cX0_init 45 = .ok (.newarray .int, 2) := by decide +kernel
theorem dX0_init_47 : decode cX0_init 47 = .ok (.putfield 28, 3) := by decide +kernel
theorem dX0_init_50 : decode cX0_init 50 = .ok (.aload_n 0, 1) := by decide +kernel
theorem dX0_init_51 : decode cX0_init 51 = .ok (.bipush 8, 2) := by decide +kernel
theorem dX0_init_53 : decode cX0_init 53 = .ok (.newarray .int, 2) := by decide +kernel
theorem dX0_init_55 : decode cX0_init 55 = .ok (.putfield 31, 3) := by decide +kernel
theorem dX0_init_58 : decode cX0_init 58 = .ok (.aload_n 0, 1) := by decide +kernel
theorem dX0_init_59 : decode cX0_init 59 = .ok (.bipush 8, 2) := by decide +kernel
theorem dX0_init_61 : decode cX0_init 61 = .ok (.newarray .int, 2) := by decide +kernel
theorem dX0_init_63 : decode cX0_init 63 = .ok (.putfield 34, 3) := by decide +kernel
theorem dX0_init_66 : decode cX0_init 66 = .ok (.aload_n 0, 1) := by decide +kernel
theorem dX0_init_67 : decode cX0_init 67 = .ok (.new 37, 3) := by decide +kernel
theorem dX0_init_70 : decode cX0_init 70 = .ok (.dup, 1) := by decide +kernel
theorem dX0_init_71 : decode cX0_init 71 = .ok (.bipush 50, 2) := by decide +kernel
theorem dX0_init_73 : decode cX0_init 73 = .ok (.invokespecial 39, 3) := by decide +kernel
theorem dX0_init_76 : decode cX0_init 76 = .ok (.putfield 42, 3) := by decide +kernel
theorem dX0_init_79 : decode cX0_init 79 = .ok (.aload_n 0, 1) := by decide +kernel
theorem dX0_init_80 : decode cX0_init 80 = .ok (.new 37, 3) := by decide +kernel
theorem dX0_init_83 : decode cX0_init 83 = .ok (.dup, 1) := by decide +kernel
theorem dX0_init_84 : decode cX0_init 84 = .ok (.bipush 20, 2) := by decide +kernel
theorem dX0_init_86 : decode cX0_init 86 = .ok (.invokespecial 39, 3) := by decide +kernel
theorem dX0_init_89 : decode cX0_init 89 = .ok (.putfield 46, 3) := by decide +kernel
theorem dX0_init_92 : decode cX0_init 92 = .ok (.aload_n 0, 1) := by decide +kernel
theorem dX0_init_93 : decode cX0_init 93 = .ok (.iconst 1, 1) := by decide +kernel
theorem dX0_init_94 : decode cX0_init 94 = .ok (.putfield 49, 3) := by decide +kernel
theorem dX0_init_97 : decode cX0_init 97 = .ok (.return_, 1) := by decide +kernel
set_option maxRecDepth 20000 in
theorem ggX0_takeOver_X4_takeOver : GoodIn wsX0_takeOver wsX4_takeOver := goodIn_r _ [27, 28, 29, 30, 31, 26, 32, 33, 34, 35, 36, 37, 38, 39, 40, 41, 61, 62] (by decide +kernel) (by decide +kernel)
set_option maxRecDepth 20000 in
theorem gX0_takeOver_X4_takeOver : GoodIn wsX0_takeOver (wsV RX0 83 RX4 yX4_takeOver wsX4_takeOver) := goodIn_app (goodIn_of _ (by decide +kernel)) ggX0_takeOver_X4_takeOver
theorem dX0_takeOver_0 : decode cX0_takeOver 0 = .ok (.aload_n 0, 1) := by decide +kernel
theorem dX0_takeOver_1 : decode cX0_takeOver 1 = .ok (.aload_n 1, 1) := by decide +kernel
theorem dX0_takeOver_2 : decode cX0_takeOver 2 = .ok (.getfield 9, 3) := by decide +kernel
theorem dX0_takeOver_5 : decode cX0_takeOver 5 = .ok (.putfield 9, 3) := by decide +kernel
theorem dX0_takeOver_8 : decode cX0_takeOver 8 = .ok (.aload_n 1, 1) := by decide +kernel
theorem dX0_takeOver_9 : decode cX0_takeOver 9 = .ok (.getfield 15, 3) := by decide +kernel
theorem dX0_takeOver_12 : decode cX0_takeOver 12 = .ok (.iconst 0, 1) := by decide +kernel
theorem dX0_takeOver_13 : decode cX0_takeOver 13 = .ok (.aload_n 0, 1) := by decide +kernel
theorem dX0_takeOver_14 : decode cX0_takeOver 14 = .ok (.getfield 15, 3) := by decide +kernel
theorem dX0_takeOver_17 : decode cX0_takeOver 17 = .ok (.iconst 0, 1) := by decide +kernel
theorem dX0_takeOver_18 : decode cX0_takeOver 18 = .ok (.bipush 10, 2) := by decide +kernel
theorem dX0_takeOver_20 : decode cX0_takeOver 20 = .ok (.invokestatic 52, 3) := by decide +kernel
theorem dX0_takeOver_23 : decode cX0_takeOver 23 = .ok (.aload_n 1, 1) := by decide +kernel
theorem dX0_takeOver_24 : decode cX0_takeOver 24 = .ok (.getfield 19, 3) := by decide +kernel
theorem dX0_takeOver_27 : decode cX0_takeOver 27 = .ok (.iconst 0, 1) := by decide +kernel
theorem dX0_takeOver_28 : decode cX0_takeOver 28 = .ok (.aload_n 0, 1) := by decide +kernel
theorem dX0_takeOver_29 : decode cX0_takeOver 29 = .ok (.getfield 19, 3) := by decide +kernel
theorem dX0_takeOver_32 : decode cX0_takeOver 32 = .ok (.iconst 0, 1) := by decide +kernel
theorem dX0_takeOver_33 : decode cX0_takeOver 33 = .ok (.bipush 10, 2) := by decide +kernel
theorem dX0_takeOver_35 : decode cX0_takeOver 35 = .ok (.invokestatic 52, 3) := by decide +kernel
theorem dX0_takeOver_38 : decode cX0_takeOver 38 = .ok (.aload_n 0, 1) := by decide +kernel
theorem dX0_takeOver_39 : decode cX0_takeOver 39 = .ok (.aload_n 1, 1) := by decide +kernel
theorem dX0_takeOver_40 : decode cX0_takeOver 40 = .ok (.getfield 58, 3) := by decide +kernel
theorem dX0_takeOver_43 : decode cX0_takeOver 43 = .ok (.putfield 58, 3) := by decide +kernel
theorem dX0_takeOver_46 : decode cX0_takeOver 46 = .ok (.aload_n 0, 1) := by decide +kernel
theorem dX0_takeOver_47 : decode cX0_takeOver 47 = .ok (.aload_n 1, 1) := by decide +kernel
theorem dX0_takeOver_48 : decode cX0_takeOver 48 = .ok (.getfield 61, 3) := by decide +kernel
theorem dX0_takeOver_51 : decode cX0_takeOver 51 = .ok (.putfield 61, 3) := by decide +kernel
theorem dX0_takeOver_54 : decode cX0_takeOver 54 = .ok (.aload_n 0, 1) := by decide +kernel
theorem dX0_takeOver_55 : decode cX0_takeOver 55 = .ok (.aload_n 1, 1) := by decide +kernel
theorem dX0_takeOver_56 : decode cX0_takeOver 56 = .ok (.getfield 64, 3) := by decide +kernel
theorem dX0_takeOver_59 : decode cX0_takeOver 59 = .ok (.putfield 64, 3) := by decide +kernel
theorem dX0_takeOver_62 : decode cX0_takeOver 62 = .ok (.aload_n 0, 1) := by decide +kernel
theorem dX0_takeOver_63 : decode cX0_takeOver 63 = .ok (.aload_n 1, 1) := by decide +kernel
theorem dX0_takeOver_64 : decode cX0_takeOver 64 = .ok (.getfield 67, 3) := by decide +kernel
theorem dX0_takeOver_67 : decode cX0_takeOver 67 = .ok (.putfield 67, 3) := by decide +kernel
theorem dX0_takeOver_70 : decode cX0_takeOver 70 = .ok (.aload_n 0, 1) := by decide +kernel
theorem dX0_takeOver_71 : decode cX0_takeOver 71 = .ok (.aload_n 1, 1) := by decide +kernel
theorem dX0_takeOver_72 : decode cX0_takeOver 72 = .ok (.getfield 70, 3) := by decide +kernel
theorem dX0_takeOver_75 : decode cX0_takeOver 75 = .ok (.putfield 70, 3) := by decide +kernel
theorem dX0_takeOver_78 : decode cX0_takeOver 78 = .ok (.aload_n 0, 1) := by decide +kernel
theorem dX0_takeOver_79 : decode cX0_takeOver 79 = .ok (.aload_n 1, 1) := by decide +kernel
theorem dX0_takeOver_80 : decode cX0_takeOver 80 = .ok (.getfield 73, 3) := by decide +kernel
theorem dX0_takeOver_83 : decode cX0_takeOver 83 = .ok (.putfield 73, 3) := by decide +kernel
theorem dX0_takeOver_86 : decode cX0_takeOver 86 = .ok (.aload_n 1, 1) := by decide +kernel
theorem dX0_takeOver_87 : decode cX0_takeOver 87 = .ok (.getfield 25, 3) := by decide +kernel
theorem dX0_takeOver_90 : decode cX0_takeOver 90 = .ok (.iconst 0, 1) := by decide +kernel
theorem dX0_takeOver_91 : decode cX0_takeOver 91 = .ok (.aload_n 0, 1) := by decide +kernel
theorem dX0_takeOver_92 : decode cX0_takeOver 92 = .ok (.getfield 25, 3) := by decide +kernel
theorem dX0_takeOver_95 : decode cX0_takeOver 95 = .ok (.iconst 0, 1) := by decide +kernel
theorem dX0_takeOver_96 : decode cX0_takeOver 96 = .ok (.bipush 8, 2) := by decide +kernel
theorem dX0_takeOver_98 : decode cX0_takeOver 98 = .ok (.invokestatic 52, 3) := by decide +kernel
theorem dX0_takeOver_101 : decode cX0_takeOver 101 = .ok (.aload_n 1, 1) := by decide +kernel
theorem dX0_takeOver_102 : decode cX0_takeOver 102 = .ok (.getfield 28, 3) := by decide +kernel
theorem dX0_takeOver_105 : decode cX0_takeOver 105 = .ok (.iconst 0, 1) := by decide +kernel
theorem dX0_takeOver_106 : decode cX0_takeOver 106 = .ok (.aload_n 0, 1) := by decide +kernel
theorem dX0_takeOver_107 : decode cX0_takeOver 107 = .ok (.getfield 28, 3) := by decide +kernel
theorem dX0_takeOver_110 : decode cX0_takeOver 110 = .ok (.iconst 0, 1) := by decide +kernel
theorem dX0_takeOver_111 : decode cX0_takeOver 111 = .ok (.bipush 8, 2) := by decide +kernel
theorem dX0_takeOver_113 : decode cX0_takeOver 113 = .ok (.invokestatic 52, 3) := by decide +kernel
theorem dX0_takeOver_116 : decode cX0_takeOver 116 = .ok (.aload_n 1, 1) := by decide +kernel
theorem dX0_takeOver_117 : decode cX0_takeOver 117 = .ok (.getfield 31, 3) := by decide +kernel
theorem dX0_takeOver_120 : decode cX0_takeOver 120 = .ok (.iconst 0, 1) := by decide +kernel
theorem dX0_takeOver_121 : decode cX0_takeOver 121 = .ok (.aload_n 0, 1) := by decide +kernel
theorem dX0_takeOver_122 : decode cX0_takeOver 122 = .ok (.getfield 31, 3) := by decide +kernel
theorem dX0_takeOver_125 : decode cX0_takeOver 125 = .ok (.iconst 0, 1) := by decide +kernel
theorem dX0_takeOver_126 : decode cX0_takeOver 126 = .ok (.bipush 8, 2) := by decide +kernel
theorem dX0_takeOver_128 : decode cX0_takeOver 128 = .ok (.invokestatic 52, 3) := by decide +kernel
theorem dX0_takeOver_131 : decode cX0_takeOver 131 = .ok (.aload_n 1, 1) := by decide +kernel
theorem dX0_takeOver_132 : decode cX0_takeOver 132 = .ok (.getfield 34, 3) := by decide +kernel
theorem dX0_takeOver_135 : decode cX0_takeOver 135 = .ok (.iconst 0, 1) := by decide +kernel
theorem dX0_takeOver_136 : decode cX0_takeOver 136 = .ok (.aload_n 0, 1) := by decide +kernel
theorem dX0_takeOver_137 : decode cX0_takeOver 137 = .ok (.getfield 34, 3) := by decide +kernel
theorem dX0_takeOver_140 : decode cX0_takeOver 140 = .ok (.iconst 0, 1) := by decide +kernel
theorem dX0_takeOver_141 : decode cX0_takeOver 141 = .ok (.bipush 8, 2) := by decide +kernel
theorem dX0_takeOver_143 : decode cX0_takeOver 143 = .ok (.invokestatic 52, 3) := by decide +kernel
theorem dX0_takeOver_146 : decode cX0_takeOver 146 = .ok (.aload_n 0, 1) := by decide +kernel
theorem dX0_takeOver_147 : decode cX0_takeOver 147 = .ok (.aload_n 1, 1) := by decide +kernel
theorem dX0_takeOver_148 : decode cX0_takeOver 148 = .ok (.getfield 76, 3) := by decide +kernel
theorem dX0_takeOver_151 : decode cX0_takeOver 151 = .ok (.putfield 76, 3) := by decide +kernel
theorem dX0_takeOver_154 : decode cX0_takeOver 154 = .ok (.aload_n 0, 1) := by decide +kernel
theorem dX0_takeOver_155 : decode cX0_takeOver 155 = .ok (.aload_n 1, 1) := by decide +kernel
theorem dX0_takeOver_156 : decode cX0_takeOver 156 = .ok (.getfield 80, 3) := by decide +kernel
theorem dX0_takeOver_159 : decode cX0_takeOver 159 = .ok (.putfield 80, 3) := by decide +kernel
theorem dX0_takeOver_162 : decode cX0_takeOver 162 = .ok (.aload_n 0, 1) := by decide +kernel
theorem dX0_takeOver_163 : decode cX0_takeOver 163 = .ok (.getfield 42, 3) := by decide +kernel
theorem dX0_takeOver_166 : decode cX0_takeOver 166 = .ok (.aload_n 1, 1) := by decide +kernel
theorem dX0_takeOver_167 : decode cX0_takeOver 167 = .ok (.getfield 42, 3) := by decide +kernel
theorem dX0_takeOver_170 : decode cX0_takeOver 170 = .ok (.invokevirtual 83, 3) := by decide +kernel
theorem dX0_takeOver_173 : decode cX0_takeOver 173 = .ok (.aload_n 0, 1) := by decide +kernel
theorem dX0_takeOver_174 : decode cX0_takeOver 174 = .ok (.getfield 46, 3) := by decide +kernel
theorem dX0_takeOver_177 : decode cX0_takeOver 177 = .ok (.aload_n 1, 1) := by decide +kernel
theorem dX0_takeOver_178 : decode cX0_takeOver 178 = .ok (.getfield 46, 3) := by decide +kernel
theorem dX0_takeOver_181 : decode cX0_takeOver 181 = .ok (.invokevirtual 83, 3) := by decide +kernel
theorem dX0_takeOver_184 : decode cX0_takeOver 184 = .ok (.aload_n 0, 1) := by decide +kernel
theorem dX0_takeOver_185 : decode cX0_takeOver 185 = .ok (.aload_n 1, 1) := by decide +kernel
theorem dX0_takeOver_186 : decode cX0_takeOver 186 = .ok (.getfield 49, 3) := by decide +kernel
theorem dX0_takeOver_189 : decode cX0_takeOver 189 = .ok (.putfield 49, 3) := by decide +kernel
theorem dX0_takeOver_192 : decode cX0_takeOver 192 = .ok (.return_, 1) := by decide +kernel
set_option maxRecDepth 20000 in
theorem ggX0_startAnew_J7_fill_53178 : GoodIn wsX0_startAnew wsJ7_fill_53178 := goodIn_r _ [9] (by decide +kernel) (by decide +kernel)
set_option maxRecDepth 20000 in
theorem gX0_startAnew_J7_fill_53178 : GoodIn wsX0_startAnew (va_wsS RX0 87 yJ7_fill_53178 wsJ7_fill_53178) := goodIn_app (goodIn_of _ (by decide +kernel)) ggX0_startAnew_J7_fill_53178
theorem dX0_startAnew_0 : decode cX0_startAnew 0 = .ok (.aload_n 0, 1) := by decide +kernel
theorem dX0_startAnew_1 : decode cX0_startAnew 1 = .ok (.iload_n 1, 1) := by decide +kernel
theorem dX0_startAnew_2 : decode cX0_startAnew 2 = .ok (.putfield 9, 3) := by decide +kernel
theorem dX0_startAnew_5 : decode cX0_startAnew 5 = .ok (.aload_n 0, 1) := by decide +kernel
theorem dX0_startAnew_6 : decode cX0_startAnew 6 = .ok (.getfield 15, 3) := by decide +kernel
theorem dX0_startAnew_9 : decode cX0_startAnew 9 = .ok (.iconst 0, 1) := by decide +kernel
theorem dX0_startAnew_10 : decode cX0_startAnew 10 = .ok (.invokestatic 87, 3) := by decide +kernel
theorem dX0_startAnew_13 : decode cX0_startAnew 13 = .ok (.aload_n 0, 1) := by decide +kernel
theorem dX0_startAnew_14 : decode cX0_startAnew 14 = .ok (.getfield 19, 3) := by decide +kernel
theorem dX0_startAnew_17 : decode cX0_startAnew 17 = .ok (.iconst 0, 1) := by decide +kernel
theorem dX0_startAnew_18 : decode cX0_startAnew 18 = .ok (.invokestatic 87, 3) := by decide +kernel
theorem dX0_startAnew_21 : decode cX0_startAnew 21 = .ok (.aload_n 0, 1) := by decide +kernel
theorem dX0_startAnew_22 : decode cX0_startAnew 22 = .ok (.iconst 0, 1) := by decide +kernel
theorem dX0_startAnew_23 : decode cX0_startAnew 23 = .ok (.putfield 58, 3) := by decide +kernel
theorem dX0_startAnew_26 : decode cX0_startAnew 26 = .ok (.aload_n 0, 1) := by decide +kernel
theorem dX0_startAnew_27 : decode cX0_startAnew 27 = .ok (.iconst 0, 1) := by decide +kernel
theorem dX0_startAnew_28 : decode cX0_startAnew 28 = .ok (.putfield 61, 3) := by decide +kernel
theorem dX0_startAnew_31 : decode cX0_startAnew 31 = .ok (.return_, 1) := by decide +kernel
theorem dX0_addOne_0 : decode cX0_addOne 0 = .ok (.aload_n 0, 1) := by decide +kernel
theorem dX0_addOne_1 : decode cX0_addOne 1 = .ok (.getfield 73, 3) := by decide +kernel
theorem dX0_addOne_4 : decode cX0_addOne 4 = .ok (.istore 4, 2) := by decide +kernel
theorem dX0_addOne_6 : decode cX0_addOne 6 = .ok (.iload 4, 2) := by decide +kernel
theorem dX0_addOne_8 : decode cX0_addOne 8 = .ok (.bipush 8, 2) := by decide +kernel
theorem dX0_addOne_10 : decode cX0_addOne 10 = .ok (.if_icmp .ge 45, 3) := by decide +kernel
theorem dX0_addOne_13 : decode cX0_addOne 13 = .ok (.aload_n 0, 1) := by decide +kernel
theorem dX0_addOne_14 : decode cX0_addOne 14 = .ok (.getfield 25, 3) := by decide +kernel
theorem dX0_addOne_17 : decode cX0_addOne 17 = .ok (.iload 4, 2) := by decide +kernel
theorem dX0_addOne_19 : decode cX0_addOne 19 = .ok (.iload_n 1, 1) := by decide +kernel
theorem dX0_addOne_20 : decode cX0_addOne 20 = .ok (.iastore, 1) := by decide +kernel
theorem dX0_addOne_21 : decode cX0_addOne 21 = .ok (.aload_n 0, 1) := by decide +kernel
theorem dX0_addOne_22 : decode cX0_addOne 22 = .ok (.getfield 28, 3) := by decide +kernel
theorem dX0_addOne_25 : decode cX0_addOne 25 = .ok (.iload 4, 2) := by decide +kernel
theorem dX0_addOne_27 : decode cX0_addOne 27 = .ok (.iload_n 2, 1) := by decide +kernel
theorem dX0_addOne_28 : decode cX0_addOne 28 = .ok (.iastore, 1) := by decide +kernel
theorem dX0_addOne_29 : decode cX0_addOne 29 = .ok (.aload_n 0, 1) := by decide +kernel
theorem dX0_addOne_30 : decode cX0_addOne 30 = .ok (.getfield 31, 3) := by decide +kernel
theorem dX0_addOne_33 : decode cX0_addOne 33 = .ok (.iload 4, 2) := by decide +kernel
theorem dX0_addOne_35 : decode cX0_addOne 35 = .ok (.iload_n 3, 1) := by decide +kernel
theorem dX0_addOne_36 : decode cX0_addOne 36 = .ok (.iastore, 1) := by decide +kernel
theorem dX0_addOne_37 : decode cX0_addOne 37 = .ok (.aload_n 0, 1) := by decide +kernel
theorem dX0_addOne_38 : decode cX0_addOne 38 = .ok (.getfield 34, 3) := by decide +kernel
theorem dX0_addOne_41 : decode cX0_addOne 41 = .ok (.iload 4, 2) := by decide +kernel
theorem dX0_addOne_43 : decode cX0_addOne 43 = .ok (.iconst 0, 1) := by decide +kernel
theorem dX0_addOne_44 : decode cX0_addOne 44 = .ok (.iastore, 1) := by decide +kernel
theorem dX0_addOne_45 : decode cX0_addOne 45 = .ok (.aload_n 0, 1) := by decide +kernel
theorem dX0_addOne_46 : decode cX0_addOne 46 = .ok (.dup, 1) := by decide +kernel
theorem dX0_addOne_47 : decode cX0_addOne 47 = .ok (.getfield 73, 3) := by decide +kernel
theorem dX0_addOne_50 : decode cX0_addOne 50 = .ok (.iconst 1, 1) := by decide +kernel
theorem dX0_addOne_51 : decode cX0_addOne 51 = .ok (.iadd, 1) := by decide +kernel
theorem dX0_addOne_52 : decode cX0_addOne 52 = .ok (.putfield 73, 3) := by decide +kernel
theorem dX0_addOne_55 : decode cX0_addOne 55 = .ok (.iload 4, 2) := by decide +kernel
theorem dX0_addOne_57 : decode cX0_addOne 57 = .ok (.ireturn, 1) := by decide +kernel
theorem dX0_leaveOut_0 : decode cX0_leaveOut 0 = .ok (.iconst 0, 1) := by decide +kernel
theorem dX0_leaveOut_1 : decode cX0_leaveOut 1 = .ok (.iload_n 1, 1) := by decide +kernel
theorem dX0_leaveOut_2 : decode cX0_leaveOut 2 = .ok (.invokestatic 93, 3) := by decide +kernel
theorem dX0_leaveOut_5 : decode cX0_leaveOut 5 = .ok (.istore_n 2, 1) := by decide +kernel
theorem dX0_leaveOut_6 : decode cX0_leaveOut 6 = .ok (.iload_n 2, 1) := by decide +kernel
theorem dX0_leaveOut_7 : decode cX0_leaveOut 7 = .ok (.aload_n 0, 1) := by decide +kernel
theorem dX0_leaveOut_8 : decode cX0_leaveOut 8 = .ok (.getfield 73, 3) := by decide +kernel
theorem dX0_leaveOut_11 : decode cX0_leaveOut 11 = .ok (.iconst 1, 1) := by decide +kernel
theorem dX0_leaveOut_12 : decode cX0_leaveOut 12 = .ok (.isub, 1) := by decide +kernel
theorem dX0_leaveOut_13 : decode cX0_leaveOut 13 = .ok (.if_icmp .ge 65, 3) := by decide +kernel
theorem dX0_leaveOut_16 : decode cX0_leaveOut 16 = .ok (.aload_n 0, 1) := by decide +kernel
theorem dX0_leaveOut_17 : decode cX0_leaveOut 17 = .ok (.getfield 25, 3) := by decide +kernel
theorem dX0_leaveOut_20 : decode cX0_leaveOut 20 = .ok (.iload_n 2, 1) := by decide +kernel
theorem dX0_leaveOut_21 : decode cX0_leaveOut 21 = .ok (.aload_n 0, 1) := by decide +kernel
theorem dX0_leaveOut_22 : decode cX0_leaveOut 22 = .ok (.getfield 25, 3) := by decide +kernel
theorem dX0_leaveOut_25 : decode cX0_leaveOut 25 = .ok (.iload_n 2, 1) := by decide +kernel
theorem dX0_leaveOut_26 : decode cX0_leaveOut 26 = .ok (.iconst 1, 1) := by decide +kernel
theorem dX0_leaveOut_27 : decode cX0_leaveOut 27 = .ok (.iadd, 1) := by decide +kernel
theorem dX0_leaveOut_28 : decode cX0_leaveOut 28 = .ok (.iaload, 1) := by decide +kernel
theorem dX0_leaveOut_29 : decode cX0_leaveOut 29 = .ok (.iastore, 1) := by decide +kernel
theorem dX0_leaveOut_30 : decode cX0_leaveOut 30 = .ok (.aload_n 0, 1) := by decide +kernel
theorem dX0_leaveOut_31 : decode cX0_leaveOut 31 = .ok (.getfield 28, 3) := by decide +kernel
theorem dX0_leaveOut_34 : decode cX0_leaveOut 34 = .ok (.iload_n 2, 1) := by decide +kernel
theorem dX0_leaveOut_35 : decode cX0_leaveOut 35 = .ok (.aload_n 0, 1) := by decide +kernel
theorem dX0_leaveOut_36 : decode cX0_leaveOut 36 = .ok (.getfield 28, 3) := by decide +kernel
theorem dX0_leaveOut_39 : decode cX0_leaveOut 39 = .ok (.iload_n 2, 1) := by decide +kernel
theorem dX0_leaveOut_40 : decode cX0_leaveOut 40 = .ok (.iconst 1, 1) := by decide +kernel
theorem dX0_leaveOut_41 : decode cX0_leaveOut 41 = .ok (.iadd, 1) := by decide +kernel
theorem dX0_leaveOut_42 : decode cX0_leaveOut 42 = .ok (.iaload, 1) := by decide +kernel
theorem dX0_leaveOut_43 : decode cX0_leaveOut 43 = .ok (.iastore, 1) := by decide +kernel
theorem dX0_leaveOut_44 : decode cX0_leaveOut 44 = .ok (.aload_n 0, 1) := by decide +kernel
theorem dX0_leaveOut_45 : decode cX0_leaveOut 45 = .ok (.getfield 31, 3) := by decide +kernel
theorem dX0_leaveOut_48 : decode cX0_leaveOut 48 = .ok (.iload_n 2, 1) := by decide +kernel
theorem dX0_leaveOut_49 : decode cX0_leaveOut 49 = .ok (.aload_n 0, 1) := by decide +kernel
theorem dX0_leaveOut_50 : decode cX0_leaveOut 50 = .ok (.getfield 31, 3) := by decide +kernel
theorem dX0_leaveOut_53 : decode cX0_leaveOut 53 = .ok (.iload_n 2, 1) := by decide +kernel
theorem dX0_leaveOut_54 : decode cX0_leaveOut 54 = .ok (.iconst 1, 1) := by decide +kernel
theorem dX0_leaveOut_55 : decode cX0_leaveOut 55 = .ok (.iadd, 1) := by decide +kernel
theorem dX0_leaveOut_56 : decode cX0_leaveOut 56 = .ok (.iaload, 1) := by decide +kernel
theorem dX0_leaveOut_57 : decode cX0_leaveOut 57 = .ok (.iastore, 1) := by decide +kernel
theorem dX0_leaveOut_58 : decode cX0_leaveOut 58 = .ok (.aload_n 0, 1) := by decide +kernel
theorem dX0_leaveOut_59 : decode cX0_leaveOut 59 = .ok (.getfield 34, 3) := by decide +kernel
theorem dX0_leaveOut_62 : decode cX0_leaveOut 62 = .ok (.iload_n 2, 1) := by decide +kernel
theorem dX0_leaveOut_63 : decode cX0_leaveOut 63 = .ok (.aload_n 0, 1) := by decide +kernel
theorem dX0_leaveOut_64 : decode cX0_leaveOut 64 = .ok (.getfield 34, 3) := by decide +kernel
theorem dX0_leaveOut_67 : decode cX0_leaveOut 67 = .ok (.iload_n 2, 1) := by decide +kernel
theorem dX0_leaveOut_68 : decode cX0_leaveOut 68 = .ok (.iconst 1, 1) := by decide +kernel
theorem dX0_leaveOut_69 : decode cX0_leaveOut 69 = .ok (.iadd, 1) := by decide +kernel
theorem dX0_leaveOut_70 : decode cX0_leaveOut 70 = .ok (.iaload, 1) := by decide +kernel
theorem dX0_leaveOut_71 : decode cX0_leaveOut 71 = .ok (.iastore, 1) := by decide +kernel
theorem dX0_leaveOut_72 : decode cX0_leaveOut 72 = .ok (.iinc 2 1, 3) := by decide +kernel
theorem dX0_leaveOut_75 : decode cX0_leaveOut 75 = .ok (.goto (-69), 3) := by decide +kernel
theorem dX0_leaveOut_78 : decode cX0_leaveOut 78 = .ok (.aload_n 0, 1) := by decide +kernel
theorem dX0_leaveOut_79 : decode cX0_leaveOut 79 = .ok (.iconst 0, 1) := by decide +kernel
theorem dX0_leaveOut_80 : decode cX0_leaveOut 80 = .ok (.aload_n 0, 1) := by decide +kernel
theorem dX0_leaveOut_81 : decode cX0_leaveOut 81 = .ok (.getfield 73, 3) := by decide +kernel
theorem dX0_leaveOut_84 : decode cX0_leaveOut 84 = .ok (.iconst 1, 1) := by decide +kernel
theorem dX0_leaveOut_85 : decode cX0_leaveOut 85 = .ok (.isub, 1) := by decide +kernel
theorem dX0_leaveOut_86 : decode cX0_leaveOut 86 = .ok (.invokestatic 93, 3) := by decide +kernel
theorem dX0_leaveOut_89 : decode cX0_leaveOut 89 = .ok (.putfield 73, 3) := by decide +kernel
theorem dX0_leaveOut_92 : decode cX0_leaveOut 92 = .ok (.return_, 1) := by decide +kernel
set_option maxRecDepth 20000 in
theorem ggX0_together_X0_grainsIn : GoodIn wsX0_together wsX0_grainsIn := goodIn_r _ [6, 1, 7, 8, 9, 10, 11, 12, 13, 14, 15, 16, 17, 18, 19, 20, 21, 22, 23, 24, 25, 26, 27, 28, 29] (by decide +kernel) (by decide +kernel)
set_option maxRecDepth 20000 in
theorem gX0_together_X0_grainsIn : GoodIn wsX0_together (wsV RX0 99 RX0 yX0_grainsIn wsX0_grainsIn) := goodIn_app (goodIn_of _ (by decide +kernel)) ggX0_together_X0_grainsIn
theorem dX0_together_0 : decode cX0_together 0 = .ok (.aload_n 0, 1) := by decide +kernel
theorem dX0_together_1 : decode cX0_together 1 = .ok (.iconst 1, 1) := by decide +kernel
theorem dX0_together_2 : decode cX0_together 2 = .ok (.aload_n 0, 1) := by decide +kernel
theorem dX0_together_3 : decode cX0_together 3 = .ok (.getfield 9, 3) := by decide +kernel
theorem dX0_together_6 : decode cX0_together 6 = .ok (.ishl, 1) := by decide +kernel
theorem dX0_together_7 : decode cX0_together 7 = .ok (.iconst 1, 1) := by decide +kernel
theorem dX0_together_8 : decode cX0_together 8 = .ok (.isub, 1) := by decide +kernel
theorem dX0_together_9 : decode cX0_together 9 = .ok (.invokevirtual 99, 3) := by decide +kernel
theorem dX0_together_12 : decode cX0_together 12 = .ok (.ireturn, 1) := by decide +kernel
set_option maxRecDepth 20000 in
theorem ggX0_grainsIn_X8_has : GoodIn wsX0_grainsIn wsX8_has := goodIn_r _ [5] (by decide +kernel) (by decide +kernel)
set_option maxRecDepth 20000 in
theorem gX0_grainsIn_X8_has_n103 : GoodIn wsX0_grainsIn (wsX8_has) := ggX0_grainsIn_X8_has
theorem dX0_grainsIn_0 : decode cX0_grainsIn 0 = .ok (.iconst 0, 1) := by decide +kernel
theorem dX0_grainsIn_1 : decode cX0_grainsIn 1 = .ok (.istore_n 2, 1) := by decide +kernel
theorem dX0_grainsIn_2 : decode cX0_grainsIn 2 = .ok (.iconst 0, 1) := by decide +kernel
theorem dX0_grainsIn_3 : decode cX0_grainsIn 3 = .ok (.istore_n 3, 1) := by decide +kernel
theorem dX0_grainsIn_4 : decode cX0_grainsIn 4 = .ok (.iload_n 3, 1) := by decide +kernel
theorem dX0_grainsIn_5 : decode cX0_grainsIn 5 = .ok (.aload_n 0, 1) := by decide +kernel
theorem dX0_grainsIn_6 : decode cX0_grainsIn 6 = .ok (.getfield 9, 3) := by decide +kernel
theorem dX0_grainsIn_9 : decode cX0_grainsIn 9 = .ok (.if_icmp .ge 26, 3) := by decide +kernel
theorem dX0_grainsIn_12 : decode cX0_grainsIn 12 = .ok (.iload_n 1, 1) := by decide +kernel
theorem dX0_grainsIn_13 : decode cX0_grainsIn 13 = .ok (.iload_n 3, 1) := by decide +kernel
theorem dX0_grainsIn_14 : decode cX0_grainsIn 14 = .ok (.invokestatic 103, 3) := by decide +kernel
theorem dX0_grainsIn_17 : decode cX0_grainsIn 17 = .ok (.ifCond .eq 12, 3) := by decide +kernel
theorem dX0_grainsIn_20 : decode cX0_grainsIn 20 = .ok (.iload_n 2, 1) := by decide +kernel
theorem dX0_grainsIn_21 : decode cX0_grainsIn 21 = .ok (.aload_n 0, 1) := by decide +kernel
theorem dX0_grainsIn_22 : decode cX0_grainsIn 22 = .ok (.getfield 15, 3) := by decide +kernel
theorem dX0_grainsIn_25 : decode cX0_grainsIn 25 = .ok (.iload_n 3, 1) := by decide +kernel
theorem dX0_grainsIn_26 : decode cX0_grainsIn 26 = .ok (.iaload, 1) := by decide +kernel
theorem dX0_grainsIn_27 : decode cX0_grainsIn 27 = .ok (.iadd, 1) := by decide +kernel
theorem dX0_grainsIn_28 : decode cX0_grainsIn 28 = .ok (.istore_n 2, 1) := by decide +kernel
theorem dX0_grainsIn_29 : decode cX0_grainsIn 29 = .ok (.iinc 3 1, 3) := by decide +kernel
theorem dX0_grainsIn_32 : decode cX0_grainsIn 32 = .ok (.goto (-28), 3) := by decide +kernel
theorem dX0_grainsIn_35 : decode cX0_grainsIn 35 = .ok (.iload_n 2, 1) := by decide +kernel
theorem dX0_grainsIn_36 : decode cX0_grainsIn 36 = .ok (.ireturn, 1) := by decide +kernel
set_option maxRecDepth 20000 in
theorem ggX0_sightGiven_X6_valueFor : GoodIn wsX0_sightGiven wsX6_valueFor := goodIn_r _ [6, 7, 8, 9, 10, 5, 11, 34, 35] (by decide +kernel) (by decide +kernel)
set_option maxRecDepth 20000 in
theorem gX0_sightGiven_X6_valueFor : GoodIn wsX0_sightGiven (wsV RX0 107 RX6 yX6_valueFor wsX6_valueFor) := goodIn_app (goodIn_of _ (by decide +kernel)) ggX0_sightGiven_X6_valueFor
set_option maxRecDepth 20000 in
theorem ggX0_sightGiven_X8_held : GoodIn wsX0_sightGiven wsX8_held := goodIn_r _ [14] (by decide +kernel) (by decide +kernel)
set_option maxRecDepth 20000 in
theorem gX0_sightGiven_X8_held_n113 : GoodIn wsX0_sightGiven (wsX8_held) := ggX0_sightGiven_X8_held
theorem dX0_sightGiven_0 : decode cX0_sightGiven 0 = .ok (.aload_n 0, 1) := by decide +kernel
theorem dX0_sightGiven_1 : decode cX0_sightGiven 1 = .ok (.getfield 76, 3) := by decide +kernel
theorem dX0_sightGiven_4 : decode cX0_sightGiven 4 = .ok (.ifnonnull 11, 3) := by decide +kernel
theorem dX0_sightGiven_7 : decode cX0_sightGiven 7 = .ok (.iconst 3, 1) := by decide +kernel
theorem dX0_sightGiven_8 : decode cX0_sightGiven 8 = .ok (.iload_n 2, 1) := by decide +kernel
theorem dX0_sightGiven_9 : decode cX0_sightGiven 9 = .ok (.iconst 3, 1) := by decide +kernel
theorem dX0_sightGiven_10 : decode cX0_sightGiven 10 = .ok (.idiv, 1) := by decide +kernel
theorem dX0_sightGiven_11 : decode cX0_sightGiven 11 = .ok (.isub, 1) := by decide +kernel
theorem dX0_sightGiven_12 : decode cX0_sightGiven 12 = .ok (.goto 13, 3) := by decide +kernel
theorem dX0_sightGiven_15 : decode cX0_sightGiven 15 = .ok (.aload_n 0, 1) := by decide +kernel
theorem dX0_sightGiven_16 : decode cX0_sightGiven 16 = .ok (.getfield 76, 3) := by decide +kernel
theorem dX0_sightGiven_19 : decode cX0_sightGiven 19 = .ok (.iload_n 1, 1) := by decide +kernel
theorem dX0_sightGiven_20 : decode cX0_sightGiven 20 = .ok (.iload_n 2, 1) := by decide +kernel
theorem dX0_sightGiven_21 : decode cX0_sightGiven 21 = .ok (.iload_n 3, 1) := by decide +kernel
theorem dX0_sightGiven_22 : decode cX0_sightGiven 22 = .ok (.invokevirtual 107, 3) := by decide +kernel
theorem dX0_sightGiven_25 : decode cX0_sightGiven 25 = .ok (.istore 4, 2) := by decide +kernel
theorem dX0_sightGiven_27 : decode cX0_sightGiven 27 = .ok (.iload 4, 2) := by decide +kernel
theorem dX0_sightGiven_29 : decode cX0_sightGiven 29 = .ok (.bipush 9, 2) := by decide +kernel
theorem dX0_sightGiven_31 : decode cX0_sightGiven 31 = .ok (.invokestatic 113, 3) := by decide +kernel
theorem dX0_sightGiven_34 : decode cX0_sightGiven 34 = .ok (.ireturn, 1) := by decide +kernel
set_option maxRecDepth 20000 in
theorem ggX0_theftGiven_X6_valueFor : GoodIn wsX0_theftGiven wsX6_valueFor := goodIn_r _ [6, 7, 8, 9, 10, 5, 11, 34, 35] (by decide +kernel) (by decide +kernel)
set_option maxRecDepth 20000 in
theorem gX0_theftGiven_X6_valueFor : GoodIn wsX0_theftGiven (wsV RX0 107 RX6 yX6_valueFor wsX6_valueFor) := goodIn_app (goodIn_of _ (by decide +kernel)) ggX0_theftGiven_X6_valueFor
set_option maxRecDepth 20000 in
theorem ggX0_theftGiven_X8_held : GoodIn wsX0_theftGiven wsX8_held := goodIn_r _ [14] (by decide +kernel) (by decide +kernel)
set_option maxRecDepth 20000 in
theorem gX0_theftGiven_X8_held_n113 : GoodIn wsX0_theftGiven (wsX8_held) := ggX0_theftGiven_X8_held
theorem dX0_theftGiven_0 : decode cX0_theftGiven 0 = .ok (.aload_n 0, 1) := by decide +kernel
theorem dX0_theftGiven_1 : decode cX0_theftGiven 1 = .ok (.getfield 80, 3) := by decide +kernel
theorem dX0_theftGiven_4 : decode cX0_theftGiven 4 = .ok (.ifnonnull 7, 3) := by decide +kernel
theorem dX0_theftGiven_7 : decode cX0_theftGiven 7 = .ok (.iload_n 1, 1) := by decide +kernel
theorem dX0_theftGiven_8 : decode cX0_theftGiven 8 = .ok (.goto 13, 3) := by decide +kernel
theorem dX0_theftGiven_11 : decode cX0_theftGiven 11 = .ok (.aload_n 0, 1) := by decide +kernel
theorem dX0_theftGiven_12 : decode cX0_theftGiven 12 = .ok (.getfield 80, 3) := by decide +kernel
theorem dX0_theftGiven_15 : decode cX0_theftGiven 15 = .ok (.iload_n 1, 1) := by decide +kernel
theorem dX0_theftGiven_16 : decode cX0_theftGiven 16 = .ok (.iload_n 2, 1) := by decide +kernel
theorem dX0_theftGiven_17 : decode cX0_theftGiven 17 = .ok (.iload_n 3, 1) := by decide +kernel
theorem dX0_theftGiven_18 : decode cX0_theftGiven 18 = .ok (.invokevirtual 107, 3) := by decide +kernel
theorem dX0_theftGiven_21 : decode cX0_theftGiven 21 = .ok (.istore 4, 2) := by decide +kernel
theorem dX0_theftGiven_23 : decode cX0_theftGiven 23 = .ok (.iload 4, 2) := by decide +kernel
theorem dX0_theftGiven_25 : decode cX0_theftGiven 25 = .ok (.bipush 99, 2) := by decide +kernel
theorem dX0_theftGiven_27 : decode cX0_theftGiven 27 = .ok (.invokestatic 113, 3) := by decide +kernel
theorem dX0_theftGiven_30 : decode cX0_theftGiven 30 = .ok (.ireturn, 1) := by decide +kernel
set_option maxRecDepth 20000 in
theorem ggX0_sightIn_X0_sightGiven : GoodIn wsX0_sightIn wsX0_sightGiven := goodIn_r _ [7, 8, 9, 10, 11, 12, 13, 14, 15, 16, 17, 18, 19, 20, 21, 26, 27, 28, 29, 30, 31, 32, 33, 34, 35, 36, 37, 38, 39, 40, 41, 42, 43, 44, 45, 46] (by decide +kernel) (by decide +kernel)
set_option maxRecDepth 20000 in
theorem gX0_sightIn_X0_sightGiven : GoodIn wsX0_sightIn (wsV RX0 116 RX0 yX0_sightGiven wsX0_sightGiven) := goodIn_app (goodIn_of _ (by decide +kernel)) ggX0_sightIn_X0_sightGiven
set_option maxRecDepth 20000 in
theorem ggX0_sightIn_X1_sightOf : GoodIn wsX0_sightIn wsX1_sightOf := goodIn_r _ [25] (by decide +kernel) (by decide +kernel)
set_option maxRecDepth 20000 in
theorem gX0_sightIn_X1_sightOf : GoodIn wsX0_sightIn (va_wsS RX0 119 yX1_sightOf wsX1_sightOf) := goodIn_app (goodIn_of _ (by decide +kernel)) ggX0_sightIn_X1_sightOf
theorem dX0_sightIn_0 : decode cX0_sightIn 0 = .ok (.aload_n 0, 1) := by decide +kernel
theorem dX0_sightIn_1 : decode cX0_sightIn 1 = .ok (.getfield 25, 3) := by decide +kernel
theorem dX0_sightIn_4 : decode cX0_sightIn 4 = .ok (.iload_n 1, 1) := by decide +kernel
theorem dX0_sightIn_5 : decode cX0_sightIn 5 = .ok (.iaload, 1) := by decide +kernel
theorem dX0_sightIn_6 : decode cX0_sightIn 6 = .ok (.aload_n 0, 1) := by decide +kernel
theorem dX0_sightIn_7 : decode cX0_sightIn 7 = .ok (.getfield 28, 3) := by decide +kernel
theorem dX0_sightIn_10 : decode cX0_sightIn 10 = .ok (.iload_n 1, 1) := by decide +kernel
theorem dX0_sightIn_11 : decode cX0_sightIn 11 = .ok (.iaload, 1) := by decide +kernel
theorem dX0_sightIn_12 : decode cX0_sightIn 12 = .ok (.aload_n 0, 1) := by decide +kernel
theorem dX0_sightIn_13 : decode cX0_sightIn 13 = .ok (.aload_n 0, 1) := by decide +kernel
theorem dX0_sightIn_14 : decode cX0_sightIn 14 = .ok (.getfield 28, 3) := by decide +kernel
theorem dX0_sightIn_17 : decode cX0_sightIn 17 = .ok (.iload_n 1, 1) := by decide +kernel
theorem dX0_sightIn_18 : decode cX0_sightIn 18 = .ok (.iaload, 1) := by decide +kernel
theorem dX0_sightIn_19 : decode cX0_sightIn 19 = .ok (.iload_n 2, 1) := by decide +kernel
theorem dX0_sightIn_20 : decode cX0_sightIn 20 = .ok (.iload_n 3, 1) := by decide +kernel
theorem dX0_sightIn_21 : decode cX0_sightIn 21 = .ok (.invokevirtual 116, 3) := by decide +kernel
theorem dX0_sightIn_24 : decode cX0_sightIn 24 = .ok (.invokestatic 119, 3) := by decide +kernel
theorem dX0_sightIn_27 : decode cX0_sightIn 27 = .ok (.ireturn, 1) := by decide +kernel
set_option maxRecDepth 20000 in
theorem ggX0_takesFrom_X1_isOneOf : GoodIn wsX0_takesFrom wsX1_isOneOf := goodIn_r _ [6, 7, 8, 5, 9, 10, 11, 12, 13] (by decide +kernel) (by decide +kernel)
set_option maxRecDepth 20000 in
theorem gX0_takesFrom_X1_isOneOf : GoodIn wsX0_takesFrom (va_wsS RX0 124 yX1_isOneOf wsX1_isOneOf) := goodIn_app (goodIn_of _ (by decide +kernel)) ggX0_takesFrom_X1_isOneOf
set_option maxRecDepth 20000 in
theorem ggX0_takesFrom_X0_theftGiven : GoodIn wsX0_takesFrom wsX0_theftGiven := goodIn_r _ [18, 19, 20, 21, 22, 23, 24, 25, 26, 27, 28, 29, 30, 12, 31, 35, 36, 37, 38, 39, 40, 41, 42, 43, 44, 45, 46, 47, 48, 49, 50, 51, 52, 53, 54, 55] (by decide +kernel) (by decide +kernel)
set_option maxRecDepth 20000 in
theorem gX0_takesFrom_X0_theftGiven : GoodIn wsX0_takesFrom (wsV RX0 127 RX0 yX0_theftGiven wsX0_theftGiven) := goodIn_app (goodIn_of _ (by decide +kernel)) ggX0_takesFrom_X0_theftGiven
set_option maxRecDepth 20000 in
theorem ggX0_takesFrom_X1_takesOf : GoodIn wsX0_takesFrom wsX1_takesOf := goodIn_r _ [34] (by decide +kernel) (by decide +kernel)
set_option maxRecDepth 20000 in
theorem gX0_takesFrom_X1_takesOf : GoodIn wsX0_takesFrom (va_wsS RX0 130 yX1_takesOf wsX1_takesOf) := goodIn_app (goodIn_of _ (by decide +kernel)) ggX0_takesFrom_X1_takesOf
theorem dX0_takesFrom_0 : decode cX0_takesFrom 0 = .ok (.aload_n 0, 1) := by decide +kernel
theorem dX0_takesFrom_1 : decode cX0_takesFrom 1 = .ok (.getfield 25, 3) := by decide +kernel
theorem dX0_takesFrom_4 : decode cX0_takesFrom 4 = .ok (.iload_n 1, 1) := by decide +kernel
theorem dX0_takesFrom_5 : decode cX0_takesFrom 5 = .ok (.iaload, 1) := by decide +kernel
theorem dX0_takesFrom_6 : decode cX0_takesFrom 6 = .ok (.iconst 3, 1) := by decide +kernel
theorem dX0_takesFrom_7 : decode cX0_takesFrom 7 = .ok (.invokestatic 124, 3) := by decide +kernel
theorem dX0_takesFrom_10 : decode cX0_takesFrom 10 = .ok (.ifCond .ne 5, 3) := by decide +kernel
theorem dX0_takesFrom_13 : decode cX0_takesFrom 13 = .ok (.iconst 0, 1) := by decide +kernel
theorem dX0_takesFrom_14 : decode cX0_takesFrom 14 = .ok (.ireturn, 1) := by decide +kernel
theorem dX0_takesFrom_15 : decode cX0_takesFrom 15 = .ok (.aload_n 0, 1) := by decide +kernel
theorem dX0_takesFrom_16 : decode cX0_takesFrom 16 = .ok (.getfield 25, 3) := by decide +kernel
theorem dX0_takesFrom_19 : decode cX0_takesFrom 19 = .ok (.iload_n 1, 1) := by decide +kernel
theorem dX0_takesFrom_20 : decode cX0_takesFrom 20 = .ok (.iaload, 1) := by decide +kernel
theorem dX0_takesFrom_21 : decode cX0_takesFrom 21 = .ok (.aload_n 0, 1) := by decide +kernel
theorem dX0_takesFrom_22 : decode cX0_takesFrom 22 = .ok (.aload_n 0, 1) := by decide +kernel
theorem dX0_takesFrom_23 : decode cX0_takesFrom 23 = .ok (.getfield 28, 3) := by decide +kernel
theorem dX0_takesFrom_26 : decode cX0_takesFrom 26 = .ok (.iload_n 1, 1) := by decide +kernel
theorem dX0_takesFrom_27 : decode cX0_takesFrom 27 = .ok (.iaload, 1) := by decide +kernel
theorem dX0_takesFrom_28 : decode cX0_takesFrom 28 = .ok (.iload_n 2, 1) := by decide +kernel
theorem dX0_takesFrom_29 : decode cX0_takesFrom 29 = .ok (.iload_n 3, 1) := by decide +kernel
theorem dX0_takesFrom_30 : decode cX0_takesFrom 30 = .ok (.invokevirtual 127, 3) := by decide +kernel
theorem dX0_takesFrom_33 : decode cX0_takesFrom 33 = .ok (.invokestatic 130, 3) := by decide +kernel
theorem dX0_takesFrom_36 : decode cX0_takesFrom 36 = .ok (.ireturn, 1) := by decide +kernel
set_option maxRecDepth 20000 in
theorem ggX0_seenBy_X0_sightIn : GoodIn wsX0_seenBy wsX0_sightIn := goodIn_r _ [9, 10, 11, 12, 13, 14, 8, 15, 16, 17, 18, 19, 20, 21, 22, 23, 24, 25, 26, 27, 28, 29, 30, 31, 32, 33, 45, 46, 47, 48, 49, 50, 51, 52, 53, 54, 55, 56, 57, 58, 59, 60, 61, 62, 63, 64, 65] (by decide +kernel) (by decide +kernel)
set_option maxRecDepth 20000 in
theorem gX0_seenBy_X0_sightIn : GoodIn wsX0_seenBy (wsV RX0 133 RX0 yX0_sightIn wsX0_sightIn) := goodIn_app (goodIn_of _ (by decide +kernel)) ggX0_seenBy_X0_sightIn
set_option maxRecDepth 20000 in
theorem ggX0_seenBy_X0_viewFrom : GoodIn wsX0_seenBy wsX0_viewFrom := goodIn_r _ [37, 38, 10, 39, 28, 40, 41, 42, 43, 8, 44, 45, 46, 47, 48, 49, 50, 51, 52, 53, 54, 55, 56, 57, 58, 59, 60, 61, 62, 63] (by decide +kernel) (by decide +kernel)
set_option maxRecDepth 20000 in
theorem gX0_seenBy_X0_viewFrom : GoodIn wsX0_seenBy (wsV RX0 136 RX0 yX0_viewFrom wsX0_viewFrom) := goodIn_app (goodIn_of _ (by decide +kernel)) ggX0_seenBy_X0_viewFrom
theorem dX0_seenBy_0 : decode cX0_seenBy 0 = .ok (.aload_n 0, 1) := by decide +kernel
theorem dX0_seenBy_1 : decode cX0_seenBy 1 = .ok (.iload_n 1, 1) := by decide +kernel
theorem dX0_seenBy_2 : decode cX0_seenBy 2 = .ok (.aload_n 0, 1) := by decide +kernel
theorem dX0_seenBy_3 : decode cX0_seenBy 3 = .ok (.getfield 31, 3) := by decide +kernel
theorem dX0_seenBy_6 : decode cX0_seenBy 6 = .ok (.iload_n 1, 1) := by decide +kernel
theorem dX0_seenBy_7 : decode cX0_seenBy 7 = .ok (.iaload, 1) := by decide +kernel
theorem dX0_seenBy_8 : decode cX0_seenBy 8 = .ok (.aload_n 0, 1) := by decide +kernel
theorem dX0_seenBy_9 : decode cX0_seenBy 9 = .ok (.iload_n 1, 1) := by decide +kernel
theorem dX0_seenBy_10 : decode cX0_seenBy 10 = .ok (.aload_n 0, 1) := by decide +kernel
theorem dX0_seenBy_11 : decode cX0_seenBy 11 = .ok (.getfield 64, 3) := by decide +kernel
theorem dX0_seenBy_14 : decode cX0_seenBy 14 = .ok (.aload_n 0, 1) := by decide +kernel
theorem dX0_seenBy_15 : decode cX0_seenBy 15 = .ok (.getfield 67, 3) := by decide +kernel
theorem dX0_seenBy_18 : decode cX0_seenBy 18 = .ok (.invokevirtual 133, 3) := by decide +kernel
theorem dX0_seenBy_21 : decode cX0_seenBy 21 = .ok (.aload_n 0, 1) := by decide +kernel
theorem dX0_seenBy_22 : decode cX0_seenBy 22 = .ok (.getfield 58, 3) := by decide +kernel
theorem dX0_seenBy_25 : decode cX0_seenBy 25 = .ok (.invokevirtual 136, 3) := by decide +kernel
theorem dX0_seenBy_28 : decode cX0_seenBy 28 = .ok (.ireturn, 1) := by decide +kernel
set_option maxRecDepth 20000 in
theorem ggX0_viewFrom_X8_has : GoodIn wsX0_viewFrom wsX8_has := goodIn_r _ [5] (by decide +kernel) (by decide +kernel)
set_option maxRecDepth 20000 in
theorem gX0_viewFrom_X8_has_n103 : GoodIn wsX0_viewFrom (wsX8_has) := ggX0_viewFrom_X8_has
set_option maxRecDepth 20000 in
theorem ggX0_viewFrom_X0_mirrored : GoodIn wsX0_viewFrom wsX0_mirrored := goodIn_r _ [10, 1, 3, 4, 5, 11, 12, 13, 14, 15, 16, 17, 18, 19, 20, 21, 22, 23, 24, 25, 26, 27, 28, 29] (by decide +kernel) (by decide +kernel)
set_option maxRecDepth 20000 in
theorem gX0_viewFrom_X0_mirrored : GoodIn wsX0_viewFrom (wsV RX0 140 RX0 yX0_mirrored wsX0_mirrored) := goodIn_app (goodIn_of _ (by decide +kernel)) ggX0_viewFrom_X0_mirrored
theorem dX0_viewFrom_0 : decode cX0_viewFrom 0 = .ok (.iconst 1, 1) := by decide +kernel
theorem dX0_viewFrom_1 : decode cX0_viewFrom 1 = .ok (.iload_n 2, 1) := by decide +kernel
theorem dX0_viewFrom_2 : decode cX0_viewFrom 2 = .ok (.ishl, 1) := by decide +kernel
theorem dX0_viewFrom_3 : decode cX0_viewFrom 3 = .ok (.istore 5, 2) := by decide +kernel
theorem dX0_viewFrom_5 : decode cX0_viewFrom 5 = .ok (.iload_n 2, 1) := by decide +kernel
theorem dX0_viewFrom_6 : decode cX0_viewFrom 6 = .ok (.iconst 1, 1) := by decide +kernel
theorem dX0_viewFrom_7 : decode cX0_viewFrom 7 = .ok (.isub, 1) := by decide +kernel
theorem dX0_viewFrom_8 : decode cX0_viewFrom 8 = .ok (.istore 6, 2) := by decide +kernel
theorem dX0_viewFrom_10 : decode cX0_viewFrom 10 = .ok (.iload 6, 2) := by decide +kernel
theorem dX0_viewFrom_12 : decode cX0_viewFrom 12 = .ok (.ifCond .lt 36, 3) := by decide +kernel
theorem dX0_viewFrom_15 : decode cX0_viewFrom 15 = .ok (.iload 6, 2) := by decide +kernel
theorem dX0_viewFrom_17 : decode cX0_viewFrom 17 = .ok (.iload_n 2, 1) := by decide +kernel
theorem dX0_viewFrom_18 : decode cX0_viewFrom 18 = .ok (.iload_n 3, 1) := by decide +kernel
theorem dX0_viewFrom_19 : decode cX0_viewFrom 19 = .ok (.isub, 1) := by decide +kernel
theorem dX0_viewFrom_20 : decode cX0_viewFrom 20 = .ok (.if_icmp .lt 28, 3) := by decide +kernel
theorem dX0_viewFrom_23 : decode cX0_viewFrom 23 = .ok (.iload 4, 2) := by decide +kernel
theorem dX0_viewFrom_25 : decode cX0_viewFrom 25 = .ok (.iload 6, 2) := by decide +kernel
theorem dX0_viewFrom_27 : decode cX0_viewFrom 27 = .ok (.invokestatic 103, 3) := by decide +kernel
theorem dX0_viewFrom_30 : decode cX0_viewFrom 30 = .ok (.ifCond .ne 18, 3) := by decide +kernel
theorem dX0_viewFrom_33 : decode cX0_viewFrom 33 = .ok (.iload 5, 2) := by decide +kernel
theorem dX0_viewFrom_35 : decode cX0_viewFrom 35 = .ok (.iconst 1, 1) := by decide +kernel
theorem dX0_viewFrom_36 : decode cX0_viewFrom 36 = .ok (.iload 6, 2) := by decide +kernel
theorem dX0_viewFrom_38 : decode cX0_viewFrom 38 = .ok (.ishl, 1) := by decide +kernel
theorem dX0_viewFrom_39 : decode cX0_viewFrom 39 = .ok (.ior, 1) := by decide +kernel
theorem dX0_viewFrom_40 : decode cX0_viewFrom 40 = .ok (.istore 5, 2) := by decide +kernel
theorem dX0_viewFrom_42 : decode cX0_viewFrom 42 = .ok (.iinc 6 (-1), 3) := by decide +kernel
theorem dX0_viewFrom_45 : decode cX0_viewFrom 45 = .ok (.goto (-35), 3) := by decide +kernel
theorem dX0_viewFrom_48 : decode cX0_viewFrom 48 = .ok (.iload_n 2, 1) := by decide +kernel
theorem dX0_viewFrom_49 : decode cX0_viewFrom 49 = .ok (.iconst 1, 1) := by decide +kernel
theorem dX0_viewFrom_50 : decode cX0_viewFrom 50 = .ok (.iadd, 1) := by decide +kernel
theorem dX0_viewFrom_51 : decode cX0_viewFrom 51 = .ok (.istore 6, 2) := by decide +kernel
theorem dX0_viewFrom_53 : decode cX0_viewFrom 53 = .ok (.iload 6, 2) := by decide +kernel
theorem dX0_viewFrom_55 : decode cX0_viewFrom 55 = .ok (.aload_n 0, 1) := by decide +kernel
theorem dX0_viewFrom_56 : decode cX0_viewFrom 56 = .ok (.getfield 9, 3) := by decide +kernel
theorem dX0_viewFrom_59 : decode cX0_viewFrom 59 = .ok (.if_icmp .ge 38, 3) := by decide +kernel
theorem dX0_viewFrom_62 : decode cX0_viewFrom 62 = .ok (.iload 6, 2) := by decide +kernel
theorem dX0_viewFrom_64 : decode cX0_viewFrom 64 = .ok (.iload_n 2, 1) := by decide +kernel
theorem dX0_viewFrom_65 : decode cX0_viewFrom 65 = .ok (.iload_n 3, 1) := by decide +kernel
theorem dX0_viewFrom_66 : decode cX0_viewFrom 66 = .ok (.iadd, 1) := by decide +kernel
theorem dX0_viewFrom_67 : decode cX0_viewFrom 67 = .ok (.if_icmp .gt 30, 3) := by decide +kernel
theorem dX0_viewFrom_70 : decode cX0_viewFrom 70 = .ok (.iload 4, 2) := by decide +kernel
theorem dX0_viewFrom_72 : decode cX0_viewFrom 72 = .ok (.iload 6, 2) := by decide +kernel
theorem dX0_viewFrom_74 : decode cX0_viewFrom 74 = .ok (.iconst 1, 1) := by decide +kernel
theorem dX0_viewFrom_75 : decode cX0_viewFrom 75 = .ok (.isub, 1) := by decide +kernel
theorem dX0_viewFrom_76 : decode cX0_viewFrom 76 = .ok (.invokestatic 103, 3) := by decide +kernel
theorem dX0_viewFrom_79 : decode cX0_viewFrom 79 = .ok (.ifCond .ne 18, 3) := by decide +kernel
theorem dX0_viewFrom_82 : decode cX0_viewFrom 82 = .ok (.iload 5, 2) := by decide +kernel
theorem dX0_viewFrom_84 : decode cX0_viewFrom 84 = .ok (.iconst 1, 1) := by decide +kernel
theorem dX0_viewFrom_85 : decode cX0_viewFrom 85 = .ok (.iload 6, 2) := by decide +kernel
theorem dX0_viewFrom_87 : decode cX0_viewFrom 87 = .ok (.ishl, 1) := by decide +kernel
theorem dX0_viewFrom_88 : decode cX0_viewFrom 88 = .ok (.ior, 1) := by decide +kernel
theorem dX0_viewFrom_89 : decode cX0_viewFrom 89 = .ok (.istore 5, 2) := by decide +kernel
theorem dX0_viewFrom_91 : decode cX0_viewFrom 91 = .ok (.iinc 6 1, 3) := by decide +kernel
theorem dX0_viewFrom_94 : decode cX0_viewFrom 94 = .ok (.goto (-41), 3) := by decide +kernel
theorem dX0_viewFrom_97 : decode cX0_viewFrom 97 = .ok (.aload_n 0, 1) := by decide +kernel
theorem dX0_viewFrom_98 : decode cX0_viewFrom 98 = .ok (.getfield 25, 3) := by decide +kernel
theorem dX0_viewFrom_101 : decode cX0_viewFrom 101 = .ok (.iload_n 1, 1) := by decide +kernel
theorem dX0_viewFrom_102 : decode cX0_viewFrom 102 = .ok (.iaload, 1) := by decide +kernel
theorem dX0_viewFrom_103 : decode cX0_viewFrom 103 = .ok (.iconst 5, 1) := by decide +kernel
theorem dX0_viewFrom_104 : decode cX0_viewFrom 104 = .ok (.if_icmp .ne 15, 3) := by decide +kernel
theorem dX0_viewFrom_107 : decode cX0_viewFrom 107 = .ok (.iload 5, 2) := by decide +kernel
theorem dX0_viewFrom_109 : decode cX0_viewFrom 109 = .ok (.aload_n 0, 1) := by decide +kernel
theorem dX0_viewFrom_110 : decode cX0_viewFrom 110 = .ok (.iload 5, 2) := by decide +kernel
theorem dX0_viewFrom_112 : decode cX0_viewFrom 112 = .ok (.invokevirtual 140, 3) := by decide +kernel
theorem dX0_viewFrom_115 : decode cX0_viewFrom 115 = .ok (.ior, 1) := by decide +kernel
theorem dX0_viewFrom_116 : decode cX0_viewFrom 116 = .ok (.goto 5, 3) := by decide +kernel
theorem dX0_viewFrom_119 : decode cX0_viewFrom 119 = .ok (.iload 5, 2) := by decide +kernel
theorem dX0_viewFrom_121 : decode cX0_viewFrom 121 = .ok (.ireturn, 1) := by decide +kernel
set_option maxRecDepth 20000 in
theorem ggX0_mirrored_X8_has : GoodIn wsX0_mirrored wsX8_has := goodIn_r _ [4] (by decide +kernel) (by decide +kernel)
set_option maxRecDepth 20000 in
theorem gX0_mirrored_X8_has_n103 : GoodIn wsX0_mirrored (wsX8_has) := ggX0_mirrored_X8_has
theorem dX0_mirrored_0 : decode cX0_mirrored 0 = .ok (.iconst 0, 1) := by decide +kernel
theorem dX0_mirrored_1 : decode cX0_mirrored 1 = .ok (.istore_n 2, 1) := by decide +kernel
theorem dX0_mirrored_2 : decode cX0_mirrored 2 = .ok (.iconst 0, 1) := by decide +kernel
theorem dX0_mirrored_3 : decode cX0_mirrored 3 = .ok (.istore_n 3, 1) := by decide +kernel
theorem dX0_mirrored_4 : decode cX0_mirrored 4 = .ok (.iload_n 3, 1) := by decide +kernel
theorem dX0_mirrored_5 : decode cX0_mirrored 5 = .ok (.aload_n 0, 1) := by decide +kernel
theorem dX0_mirrored_6 : decode cX0_mirrored 6 = .ok (.getfield 9, 3) := by decide +kernel
theorem dX0_mirrored_9 : decode cX0_mirrored 9 = .ok (.if_icmp .ge 30, 3) := by decide +kernel
theorem dX0_mirrored_12 : decode cX0_mirrored 12 = .ok (.iload_n 1, 1) := by decide +kernel
theorem dX0_mirrored_13 : decode cX0_mirrored 13 = .ok (.aload_n 0, 1) := by decide +kernel
theorem dX0_mirrored_14 : decode cX0_mirrored 14 = .ok (.getfield 9, 3) := by decide +kernel
theorem dX0_mirrored_17 : decode cX0_mirrored 17 = .ok (.iconst 1, 1) := by decide +kernel
theorem dX0_mirrored_18 : decode cX0_mirrored 18 = .ok (.isub, 1) := by decide +kernel
theorem dX0_mirrored_19 : decode cX0_mirrored 19 = .ok (.iload_n 3, 1) := by decide +kernel
theorem dX0_mirrored_20 : decode cX0_mirrored 20 = .ok (.isub, 1) := by decide +kernel
theorem dX0_mirrored_21 : decode cX0_mirrored 21 = .ok (.invokestatic 103, 3) := by decide +kernel
theorem dX0_mirrored_24 : decode cX0_mirrored 24 = .ok (.ifCond .eq 9, 3) := by decide +kernel
theorem dX0_mirrored_27 : decode cX0_mirrored 27 = .ok (.iload_n 2, 1) := by decide +kernel
theorem dX0_mirrored_28 : decode cX0_mirrored 28 = .ok (.iconst 1, 1) := by decide +kernel
theorem dX0_mirrored_29 : decode cX0_mirrored 29 = .ok (.iload_n 3, 1) := by decide +kernel
theorem dX0_mirrored_30 : decode cX0_mirrored 30 = .ok (.ishl, 1) := by decide +kernel
theorem dX0_mirrored_31 : decode cX0_mirrored 31 = .ok (.ior, 1) := by decide +kernel
theorem dX0_mirrored_32 : decode cX0_mirrored 32 = .ok (.istore_n 2, 1) := by decide +kernel
theorem dX0_mirrored_33 : decode cX0_mirrored 33 = .ok (.iinc 3 1, 3) := by decide +kernel
theorem dX0_mirrored_36 : decode cX0_mirrored 36 = .ok (.goto (-32), 3) := by decide +kernel
theorem dX0_mirrored_39 : decode cX0_mirrored 39 = .ok (.iload_n 2, 1) := by decide +kernel
theorem dX0_mirrored_40 : decode cX0_mirrored 40 = .ok (.ireturn, 1) := by decide +kernel
set_option maxRecDepth 20000 in
theorem ggX0_whoSee_X0_seenBy : GoodIn wsX0_whoSee wsX0_seenBy := goodIn_r _ [6, 7, 8, 9, 10, 11, 12, 13, 5, 14, 15, 16, 17, 18, 19, 20, 21, 22, 23, 24, 25, 26, 27, 28, 29, 30, 31, 32, 33, 34, 35, 36, 37, 38, 39, 40, 41, 42, 43, 44, 45, 46, 47, 48, 49, 50, 51, 52, 53, 54, 55, 56, 57, 58, 59, 60, 61, 62, 63, 64, 65, 66, 67, 68, 69, 70] (by decide +kernel) (by decide +kernel)
set_option maxRecDepth 20000 in
theorem gX0_whoSee_X0_seenBy : GoodIn wsX0_whoSee (wsV RX0 143 RX0 yX0_seenBy wsX0_seenBy) := goodIn_app (goodIn_of _ (by decide +kernel)) ggX0_whoSee_X0_seenBy
set_option maxRecDepth 20000 in
theorem ggX0_whoSee_X8_has : GoodIn wsX0_whoSee wsX8_has := goodIn_r _ [45] (by decide +kernel) (by decide +kernel)
set_option maxRecDepth 20000 in
theorem gX0_whoSee_X8_has_n103 : GoodIn wsX0_whoSee (wsX8_has) := ggX0_whoSee_X8_has
theorem dX0_whoSee_0 : decode cX0_whoSee 0 = .ok (.iconst 0, 1) := by decide +kernel
theorem dX0_whoSee_1 : decode cX0_whoSee 1 = .ok (.istore_n 2, 1) := by decide +kernel
theorem dX0_whoSee_2 : decode cX0_whoSee 2 = .ok (.iconst 0, 1) := by decide +kernel
theorem dX0_whoSee_3 : decode cX0_whoSee 3 = .ok (.istore_n 3, 1) := by decide +kernel
theorem dX0_whoSee_4 : decode cX0_whoSee 4 = .ok (.iload_n 3, 1) := by decide +kernel
theorem dX0_whoSee_5 : decode cX0_whoSee 5 = .ok (.aload_n 0, 1) := by decide +kernel
theorem dX0_whoSee_6 : decode cX0_whoSee 6 = .ok (.getfield 73, 3) := by decide +kernel
theorem dX0_whoSee_9 : decode cX0_whoSee 9 = .ok (.if_icmp .ge 27, 3) := by decide +kernel
theorem dX0_whoSee_12 : decode cX0_whoSee 12 = .ok (.aload_n 0, 1) := by decide +kernel
theorem dX0_whoSee_13 : decode cX0_whoSee 13 = .ok (.iload_n 3, 1) := by decide +kernel
theorem dX0_whoSee_14 : decode cX0_whoSee 14 = .ok (.invokevirtual 143, 3) := by decide +kernel
theorem dX0_whoSee_17 : decode cX0_whoSee 17 = .ok (.iload_n 1, 1) := by decide +kernel
theorem dX0_whoSee_18 : decode cX0_whoSee 18 = .ok (.invokestatic 103, 3) := by decide +kernel
theorem dX0_whoSee_21 : decode cX0_whoSee 21 = .ok (.ifCond .eq 9, 3) := by decide +kernel
theorem dX0_whoSee_24 : decode cX0_whoSee 24 = .ok (.iload_n 2, 1) := by decide +kernel
theorem dX0_whoSee_25 : decode cX0_whoSee 25 = .ok (.iconst 1, 1) := by decide +kernel
theorem dX0_whoSee_26 : decode cX0_whoSee 26 = .ok (.iload_n 3, 1) := by decide +kernel
theorem dX0_whoSee_27 : decode cX0_whoSee 27 = .ok (.ishl, 1) := by decide +kernel
theorem dX0_whoSee_28 : decode cX0_whoSee 28 = .ok (.ior, 1) := by decide +kernel
theorem dX0_whoSee_29 : decode cX0_whoSee 29 = .ok (.istore_n 2, 1) := by decide +kernel
theorem dX0_whoSee_30 : decode cX0_whoSee 30 = .ok (.iinc 3 1, 3) := by decide +kernel
theorem dX0_whoSee_33 : decode cX0_whoSee 33 = .ok (.goto (-29), 3) := by decide +kernel
theorem dX0_whoSee_36 : decode cX0_whoSee 36 = .ok (.iload_n 2, 1) := by decide +kernel
theorem dX0_whoSee_37 : decode cX0_whoSee 37 = .ok (.ireturn, 1) := by decide +kernel
theorem dX0_whoAreAt_0 : decode cX0_whoAreAt 0 = .ok (.iconst 0, 1) := by decide +kernel
theorem dX0_whoAreAt_1 : decode cX0_whoAreAt 1 = .ok (.istore_n 2, 1) := by decide +kernel
theorem dX0_whoAreAt_2 : decode cX0_whoAreAt 2 = .ok (.iconst 0, 1) := by decide +kernel
theorem dX0_whoAreAt_3 : decode cX0_whoAreAt 3 = .ok (.istore_n 3, 1) := by decide +kernel
theorem dX0_whoAreAt_4 : decode cX0_whoAreAt 4 = .ok (.iload_n 3, 1) := by decide +kernel
theorem dX0_whoAreAt_5 : decode cX0_whoAreAt 5 = .ok (.aload_n 0, 1) := by decide +kernel
theorem dX0_whoAreAt_6 : decode cX0_whoAreAt 6 = .ok (.getfield 73, 3) := by decide +kernel
theorem dX0_whoAreAt_9 : decode cX0_whoAreAt 9 = .ok (.if_icmp .ge 25, 3) := by decide +kernel
theorem dX0_whoAreAt_12 : decode cX0_whoAreAt 12 = .ok (.aload_n 0, 1) := by decide +kernel
theorem dX0_whoAreAt_13 : decode cX0_whoAreAt 13 = .ok (.getfield 31, 3) := by decide +kernel
theorem dX0_whoAreAt_16 : decode cX0_whoAreAt 16 = .ok (.iload_n 3, 1) := by decide +kernel
theorem dX0_whoAreAt_17 : decode cX0_whoAreAt 17 = .ok (.iaload, 1) := by decide +kernel
theorem dX0_whoAreAt_18 : decode cX0_whoAreAt 18 = .ok (.iload_n 1, 1) := by decide +kernel
theorem dX0_whoAreAt_19 : decode cX0_whoAreAt 19 = .ok (.if_icmp .ne 9, 3) := by decide +kernel
theorem dX0_whoAreAt_22 : decode cX0_whoAreAt 22 = .ok (.iload_n 2, 1) := by decide +kernel
theorem dX0_whoAreAt_23 : decode cX0_whoAreAt 23 = .ok (.iconst 1, 1) := by decide +kernel
theorem dX0_whoAreAt_24 : decode cX0_whoAreAt 24 = .ok (.iload_n 3, 1) := by decide +kernel
theorem dX0_whoAreAt_25 : decode cX0_whoAreAt 25 = .ok (.ishl, 1) := by decide +kernel
theorem dX0_whoAreAt_26 : decode cX0_whoAreAt 26 = .ok (.ior, 1) := by decide +kernel
theorem dX0_whoAreAt_27 : decode cX0_whoAreAt 27 = .ok (.istore_n 2, 1) := by decide +kernel
theorem dX0_whoAreAt_28 : decode cX0_whoAreAt 28 = .ok (.iinc 3 1, 3) := by decide +kernel
theorem dX0_whoAreAt_31 : decode cX0_whoAreAt 31 = .ok (.goto (-27), 3) := by decide +kernel
theorem dX0_whoAreAt_34 : decode cX0_whoAreAt 34 = .ok (.iload_n 2, 1) := by decide +kernel
theorem dX0_whoAreAt_35 : decode cX0_whoAreAt 35 = .ok (.ireturn, 1) := by decide +kernel
set_option maxRecDepth 20000 in
theorem ggX0_isSeen_X0_viewFrom : GoodIn wsX0_isSeen wsX0_viewFrom := goodIn_r _ [7, 8, 9, 10, 11, 12, 13, 14, 15, 6, 16, 17, 18, 19, 20, 21, 22, 23, 24, 25, 26, 27, 28, 29, 30, 31, 32, 33, 34, 35] (by decide +kernel) (by decide +kernel)
set_option maxRecDepth 20000 in
theorem gX0_isSeen_X0_viewFrom : GoodIn wsX0_isSeen (wsV RX0 136 RX0 yX0_viewFrom wsX0_viewFrom) := goodIn_app (goodIn_of _ (by decide +kernel)) ggX0_isSeen_X0_viewFrom
set_option maxRecDepth 20000 in
theorem ggX0_isSeen_X8_has : GoodIn wsX0_isSeen wsX8_has := goodIn_r _ [12] (by decide +kernel) (by decide +kernel)
set_option maxRecDepth 20000 in
theorem gX0_isSeen_X8_has_n103 : GoodIn wsX0_isSeen (wsX8_has) := ggX0_isSeen_X8_has
theorem dX0_isSeen_0 : decode cX0_isSeen 0 = .ok (.iconst 0, 1) := by decide +kernel
theorem dX0_isSeen_1 : decode cX0_isSeen 1 = .ok (.istore 4, 2) := by decide +kernel
theorem dX0_isSeen_3 : decode cX0_isSeen 3 = .ok (.iload 4, 2) := by decide +kernel
theorem dX0_isSeen_5 : decode cX0_isSeen 5 = .ok (.aload_n 0, 1) := by decide +kernel
theorem dX0_isSeen_6 : decode cX0_isSeen 6 = .ok (.getfield 73, 3) := by decide +kernel
theorem dX0_isSeen_9 : decode cX0_isSeen 9 = .ok (.if_icmp .ge 43, 3) := by decide +kernel
theorem dX0_isSeen_12 : decode cX0_isSeen 12 = .ok (.iload 4, 2) := by decide +kernel
theorem dX0_isSeen_14 : decode cX0_isSeen 14 = .ok (.aload_n 2, 1) := by decide +kernel
theorem dX0_isSeen_15 : decode cX0_isSeen 15 = .ok (.arraylength, 1) := by decide +kernel
theorem dX0_isSeen_16 : decode cX0_isSeen 16 = .ok (.if_icmp .ge 36, 3) := by decide +kernel
theorem dX0_isSeen_19 : decode cX0_isSeen 19 = .ok (.aload_n 0, 1) := by decide +kernel
theorem dX0_isSeen_20 : decode cX0_isSeen 20 = .ok (.iload 4, 2) := by decide +kernel
theorem dX0_isSeen_22 : decode cX0_isSeen 22 = .ok (.aload_n 0, 1) := by decide +kernel
theorem dX0_isSeen_23 : decode cX0_isSeen 23 = .ok (.getfield 31, 3) := by decide +kernel
theorem dX0_isSeen_26 : decode cX0_isSeen 26 = .ok (.iload 4, 2) := by decide +kernel
theorem dX0_isSeen_28 : decode cX0_isSeen 28 = .ok (.iaload, 1) := by decide +kernel
theorem dX0_isSeen_29 : decode cX0_isSeen 29 = .ok (.aload_n 2, 1) := by decide +kernel
theorem dX0_isSeen_30 : decode cX0_isSeen 30 = .ok (.iload 4, 2) := by decide +kernel
theorem dX0_isSeen_32 : decode cX0_isSeen 32 = .ok (.iaload, 1) := by decide +kernel
theorem dX0_isSeen_33 : decode cX0_isSeen 33 = .ok (.iload_n 3, 1) := by decide +kernel
theorem dX0_isSeen_34 : decode cX0_isSeen 34 = .ok (.invokevirtual 136, 3) := by decide +kernel
theorem dX0_isSeen_37 : decode cX0_isSeen 37 = .ok (.iload_n 1, 1) := by decide +kernel
theorem dX0_isSeen_38 : decode cX0_isSeen 38 = .ok (.invokestatic 103, 3) := by decide +kernel
theorem dX0_isSeen_41 : decode cX0_isSeen 41 = .ok (.ifCond .eq 5, 3) := by decide +kernel
theorem dX0_isSeen_44 : decode cX0_isSeen 44 = .ok (.iconst 1, 1) := by decide +kernel
theorem dX0_isSeen_45 : decode cX0_isSeen 45 = .ok (.ireturn, 1) := by decide +kernel
theorem dX0_isSeen_46 : decode cX0_isSeen 46 = .ok (.iinc 4 1, 3) := by decide +kernel
theorem dX0_isSeen_49 : decode cX0_isSeen 49 = .ok (.goto (-46), 3) := by decide +kernel
theorem dX0_isSeen_52 : decode cX0_isSeen 52 = .ok (.iconst 0, 1) := by decide +kernel
theorem dX0_isSeen_53 : decode cX0_isSeen 53 = .ok (.ireturn, 1) := by decide +kernel
set_option maxRecDepth 20000 in
theorem ggX0_passHour_X0_grow : GoodIn wsX0_passHour wsX0_grow := goodIn_r _ [15, 16, 1, 17, 18, 2, 19, 4, 20, 21, 3, 22, 10, 23, 24, 25, 26, 27, 28, 29, 30, 31, 32, 33, 14, 34, 35, 36, 37, 38, 39, 40, 41, 42, 43, 44, 45, 46, 47, 48, 49, 50, 51, 52, 53, 54, 55, 56, 57, 58, 59, 60, 61, 62, 63, 64, 65, 92, 93, 94, 95, 96, 97, 98, 99, 100, 101, 102, 103, 104, 105, 106, 107, 108, 109, 110, 111, 112] (by decide +kernel) (by decide +kernel)
set_option maxRecDepth 20000 in
theorem gX0_passHour_X0_grow : GoodIn wsX0_passHour (wsV RX0 146 RX0 yX0_grow wsX0_grow) := goodIn_app (goodIn_of _ (by decide +kernel)) ggX0_passHour_X0_grow
set_option maxRecDepth 20000 in
theorem ggX0_passHour_X0_takesFrom : GoodIn wsX0_passHour wsX0_takesFrom := goodIn_r _ [69, 17, 18, 70, 71, 29, 72, 73, 74, 75, 76, 77, 51, 78, 79, 80, 81, 14, 82, 83, 40, 41, 42, 43, 44, 45, 46, 47, 48, 49, 50, 52, 84, 85, 86, 92, 93, 94, 95, 96, 97, 98, 99, 100, 101, 102, 103, 104, 105, 106, 107, 108, 109, 110, 111, 112] (by decide +kernel) (by decide +kernel)
set_option maxRecDepth 20000 in
theorem gX0_passHour_X0_takesFrom : GoodIn wsX0_passHour (wsV RX0 149 RX0 yX0_takesFrom wsX0_takesFrom) := goodIn_app (goodIn_of _ (by decide +kernel)) ggX0_passHour_X0_takesFrom
set_option maxRecDepth 20000 in
theorem ggX0_passHour_X8_held : GoodIn wsX0_passHour wsX8_held := goodIn_r _ [52] (by decide +kernel) (by decide +kernel)
set_option maxRecDepth 20000 in
theorem gX0_passHour_X8_held_n113 : GoodIn wsX0_passHour (wsX8_held) := ggX0_passHour_X8_held
set_option maxRecDepth 20000 in
theorem ggX0_passHour_X0_goOn : GoodIn wsX0_passHour wsX0_goOn := goodIn_r _ [90, 2, 91, 21, 77, 51, 78, 92, 93, 94, 95, 96, 97, 98, 99, 100, 101, 102, 103, 104, 105, 106, 107, 108, 109, 110] (by decide +kernel) (by decide +kernel)
set_option maxRecDepth 20000 in
theorem gX0_passHour_X0_goOn : GoodIn wsX0_passHour (wsV RX0 156 RX0 yX0_goOn wsX0_goOn) := goodIn_app (goodIn_of _ (by decide +kernel)) ggX0_passHour_X0_goOn
theorem dX0_passHour_0 : decode cX0_passHour 0 = .ok (.aload_n 0, 1) := by decide +kernel
theorem dX0_passHour_1 : decode cX0_passHour 1 = .ok (.invokevirtual 146, 3) := by decide +kernel
theorem dX0_passHour_4 : decode cX0_passHour 4 = .ok (.iconst 0, 1) := by decide +kernel
theorem dX0_passHour_5 : decode cX0_passHour 5 = .ok (.istore_n 1, 1) := by decide +kernel
theorem dX0_passHour_6 : decode cX0_passHour 6 = .ok (.iload_n 1, 1) := by decide +kernel
theorem dX0_passHour_7 : decode cX0_passHour 7 = .ok (.aload_n 0, 1) := by decide +kernel
theorem dX0_passHour_8 : decode cX0_passHour 8 = .ok (.getfield 73, 3) := by decide +kernel
theorem dX0_passHour_11 : decode cX0_passHour 11 = .ok (.if_icmp .ge 71, 3) := by decide +kernel
theorem dX0_passHour_14 : decode cX0_passHour 14 = .ok (.aload_n 0, 1) := by decide +kernel
theorem dX0_passHour_15 : decode cX0_passHour 15 = .ok (.getfield 31, 3) := by decide +kernel
theorem dX0_passHour_18 : decode cX0_passHour 18 = .ok (.iload_n 1, 1) := by decide +kernel
theorem dX0_passHour_19 : decode cX0_passHour 19 = .ok (.iaload, 1) := by decide +kernel
theorem dX0_passHour_20 : decode cX0_passHour 20 = .ok (.istore_n 2, 1) := by decide +kernel
theorem dX0_passHour_21 : decode cX0_passHour 21 = .ok (.aload_n 0, 1) := by decide +kernel
theorem dX0_passHour_22 : decode cX0_passHour 22 = .ok (.getfield 15, 3) := by decide +kernel
theorem dX0_passHour_25 : decode cX0_passHour 25 = .ok (.iload_n 2, 1) := by decide +kernel
theorem dX0_passHour_26 : decode cX0_passHour 26 = .ok (.iaload, 1) := by decide +kernel
theorem dX0_passHour_27 : decode cX0_passHour 27 = .ok (.aload_n 0, 1) := by decide +kernel
theorem dX0_passHour_28 : decode cX0_passHour 28 = .ok (.iload_n 1, 1) := by decide +kernel
theorem dX0_passHour_29 : decode cX0_passHour 29 = .ok (.aload_n 0, 1) := by decide +kernel
theorem dX0_passHour_30 : decode cX0_passHour 30 = .ok (.getfield 15, 3) := by decide +kernel
theorem dX0_passHour_33 : decode cX0_passHour 33 = .ok (.iload_n 2, 1) := by decide +kernel
theorem dX0_passHour_34 : decode cX0_passHour 34 = .ok (.iaload, 1) := by decide +kernel
theorem dX0_passHour_35 : decode cX0_passHour 35 = .ok (.aload_n 0, 1) := by decide +kernel
theorem dX0_passHour_36 : decode cX0_passHour 36 = .ok (.getfield 67, 3) := by decide +kernel
theorem dX0_passHour_39 : decode cX0_passHour 39 = .ok (.invokevirtual 149, 3) := by decide +kernel
theorem dX0_passHour_42 : decode cX0_passHour 42 = .ok (.invokestatic 152, 3) := by decide +kernel
theorem dX0_passHour_45 : decode cX0_passHour 45 = .ok (.istore_n 3, 1) := by decide +kernel
theorem dX0_passHour_46 : decode cX0_passHour 46 = .ok (.aload_n 0, 1) := by decide +kernel
theorem dX0_passHour_47 : decode cX0_passHour 47 = .ok (.getfield 15, 3) := by decide +kernel
theorem dX0_passHour_50 : decode cX0_passHour 50 = .ok (.iload_n 2, 1) := by decide +kernel
theorem dX0_passHour_51 : decode cX0_passHour 51 = .ok (.dup2, 1) := by decide +kernel
theorem dX0_passHour_52 : decode cX0_passHour 52 = .ok (.iaload, 1) := by decide +kernel
theorem dX0_passHour_53 : decode cX0_passHour 53 = .ok (.iload_n 3, 1) := by decide +kernel
theorem dX0_passHour_54 : decode cX0_passHour 54 = .ok (.isub, 1) := by decide +kernel
theorem dX0_passHour_55 : decode cX0_passHour 55 = .ok (.iastore, 1) := by decide +kernel
theorem dX0_passHour_56 : decode cX0_passHour 56 = .ok (.aload_n 0, 1) := by decide +kernel
theorem dX0_passHour_57 : decode cX0_passHour 57 = .ok (.aload_n 0, 1) := by decide +kernel
theorem dX0_passHour_58 : decode cX0_passHour 58 = .ok (.getfield 70, 3) := by decide +kernel
theorem dX0_passHour_61 : decode cX0_passHour 61 = .ok (.iload_n 3, 1) := by decide +kernel
theorem dX0_passHour_62 : decode cX0_passHour 62 = .ok (.iadd, 1) := by decide +kernel
theorem dX0_passHour_63 : decode cX0_passHour 63 = .ok (.ldc 155, 2) := by decide +kernel
theorem dX0_passHour_65 : decode cX0_passHour 65 = .ok (.invokestatic 113, 3) := by decide +kernel
theorem dX0_passHour_68 : decode cX0_passHour 68 = .ok (.putfield 70, 3) := by decide +kernel
theorem dX0_passHour_71 : decode cX0_passHour 71 = .ok (.aload_n 0, 1) := by decide +kernel
theorem dX0_passHour_72 : decode cX0_passHour 72 = .ok (.iload_n 1, 1) := by decide +kernel
theorem dX0_passHour_73 : decode cX0_passHour 73 = .ok (.invokevirtual 156, 3) := by decide +kernel
theorem dX0_passHour_76 : decode cX0_passHour 76 = .ok (.iinc 1 1, 3) := by decide +kernel
theorem dX0_passHour_79 : decode cX0_passHour 79 = .ok (.goto (-73), 3) := by decide +kernel
theorem dX0_passHour_82 : decode cX0_passHour 82 = .ok (.aload_n 0, 1) := by decide +kernel
theorem dX0_passHour_83 : decode cX0_passHour 83 = .ok (.dup, 1) := by decide +kernel
theorem dX0_passHour_84 : decode cX0_passHour 84 = .ok (.getfield 67, 3) := by decide +kernel
theorem dX0_passHour_87 : decode cX0_passHour 87 = .ok (.iconst 1, 1) := by decide +kernel
theorem dX0_passHour_88 : decode cX0_passHour 88 = .ok (.iadd, 1) := by decide +kernel
theorem dX0_passHour_89 : decode cX0_passHour 89 = .ok (.putfield 67, 3) := by decide +kernel
theorem dX0_passHour_92 : decode cX0_passHour 92 = .ok (.return_, 1) := by decide +kernel
set_option maxRecDepth 20000 in
theorem ggX0_grow_J7_fill_53178 : GoodIn wsX0_grow wsJ7_fill_53178 := goodIn_r _ [16] (by decide +kernel) (by decide +kernel)
set_option maxRecDepth 20000 in
theorem gX0_grow_J7_fill_53178 : GoodIn wsX0_grow (va_wsS RX0 87 yJ7_fill_53178 wsJ7_fill_53178) := goodIn_app (goodIn_of _ (by decide +kernel)) ggX0_grow_J7_fill_53178
set_option maxRecDepth 20000 in
theorem ggX0_grow_X1_countsOf : GoodIn wsX0_grow wsX1_countsOf := goodIn_r _ [20] (by decide +kernel) (by decide +kernel)
set_option maxRecDepth 20000 in
theorem gX0_grow_X1_countsOf : GoodIn wsX0_grow (va_wsS RX0 159 yX1_countsOf wsX1_countsOf) := goodIn_app (goodIn_of _ (by decide +kernel)) ggX0_grow_X1_countsOf
set_option maxRecDepth 20000 in
theorem ggX0_grow_X0_sightIn : GoodIn wsX0_grow wsX0_sightIn := goodIn_r _ [25, 3, 4, 26, 27, 28, 24, 29, 30, 31, 32, 33, 34, 35, 36, 37, 38, 39, 40, 41, 42, 43, 44, 45, 19, 46, 57, 58, 59, 60, 61, 62, 63, 64, 65, 66, 67, 68, 69, 70, 71, 72, 73, 74, 75, 76, 77] (by decide +kernel) (by decide +kernel)
set_option maxRecDepth 20000 in
theorem gX0_grow_X0_sightIn : GoodIn wsX0_grow (wsV RX0 133 RX0 yX0_sightIn wsX0_sightIn) := goodIn_app (goodIn_of _ (by decide +kernel)) ggX0_grow_X0_sightIn
set_option maxRecDepth 20000 in
theorem ggX0_grow_X0_viewFrom : GoodIn wsX0_grow wsX0_viewFrom := goodIn_r _ [50, 9, 3, 51, 42, 52, 53, 54, 55, 24, 56, 57, 58, 59, 60, 61, 62, 63, 64, 65, 66, 67, 68, 69, 70, 71, 72, 73, 74, 75] (by decide +kernel) (by decide +kernel)
set_option maxRecDepth 20000 in
theorem gX0_grow_X0_viewFrom : GoodIn wsX0_grow (wsV RX0 136 RX0 yX0_viewFrom wsX0_viewFrom) := goodIn_app (goodIn_of _ (by decide +kernel)) ggX0_grow_X0_viewFrom
set_option maxRecDepth 20000 in
theorem ggX0_grow_X8_has : GoodIn wsX0_grow wsX8_has := goodIn_r _ [52] (by decide +kernel) (by decide +kernel)
set_option maxRecDepth 20000 in
theorem gX0_grow_X8_has_n103 : GoodIn wsX0_grow (wsX8_has) := ggX0_grow_X8_has
set_option maxRecDepth 20000 in
theorem ggX0_grow_X8_held : GoodIn wsX0_grow wsX8_held := goodIn_r _ [43] (by decide +kernel) (by decide +kernel)
set_option maxRecDepth 20000 in
theorem gX0_grow_X8_held_n113 : GoodIn wsX0_grow (wsX8_held) := ggX0_grow_X8_held
theorem dX0_grow_0 : decode cX0_grow 0 = .ok (.aload_n 0, 1) := by decide +kernel
theorem dX0_grow_1 : decode cX0_grow 1 = .ok (.getfield 22, 3) := by decide +kernel
theorem dX0_grow_4 : decode cX0_grow 4 = .ok (.iconst 0, 1) := by decide +kernel
theorem dX0_grow_5 : decode cX0_grow 5 = .ok (.invokestatic 87, 3) := by decide +kernel
theorem dX0_grow_8 : decode cX0_grow 8 = .ok (.iconst 0, 1) := by decide +kernel
theorem dX0_grow_9 : decode cX0_grow 9 = .ok (.istore_n 1, 1) := by decide +kernel
theorem dX0_grow_10 : decode cX0_grow 10 = .ok (.iload_n 1, 1) := by decide +kernel
theorem dX0_grow_11 : decode cX0_grow 11 = .ok (.aload_n 0, 1) := by decide +kernel
theorem dX0_grow_12 : decode cX0_grow 12 = .ok (.getfield 73, 3) := by decide +kernel
theorem dX0_grow_15 : decode cX0_grow 15 = .ok (.if_icmp .ge 100, 3) := by decide +kernel
theorem dX0_grow_18 : decode cX0_grow 18 = .ok (.aload_n 0, 1) := by decide +kernel
theorem dX0_grow_19 : decode cX0_grow 19 = .ok (.getfield 25, 3) := by decide +kernel
theorem dX0_grow_22 : decode cX0_grow 22 = .ok (.iload_n 1, 1) := by decide +kernel
theorem dX0_grow_23 : decode cX0_grow 23 = .ok (.iaload, 1) := by decide +kernel
theorem dX0_grow_24 : decode cX0_grow 24 = .ok (.aload_n 0, 1) := by decide +kernel
theorem dX0_grow_25 : decode cX0_grow 25 = .ok (.getfield 28, 3) := by decide +kernel
theorem dX0_grow_28 : decode cX0_grow 28 = .ok (.iload_n 1, 1) := by decide +kernel
theorem dX0_grow_29 : decode cX0_grow 29 = .ok (.iaload, 1) := by decide +kernel
theorem dX0_grow_30 : decode cX0_grow 30 = .ok (.invokestatic 159, 3) := by decide +kernel
theorem dX0_grow_33 : decode cX0_grow 33 = .ok (.istore_n 2, 1) := by decide +kernel
theorem dX0_grow_34 : decode cX0_grow 34 = .ok (.iload_n 2, 1) := by decide +kernel
theorem dX0_grow_35 : decode cX0_grow 35 = .ok (.ifCond .ne 7, 3) := by decide +kernel
theorem dX0_grow_38 : decode cX0_grow 38 = .ok (.iconst 0, 1) := by decide +kernel
theorem dX0_grow_39 : decode cX0_grow 39 = .ok (.goto 31, 3) := by decide +kernel
theorem dX0_grow_42 : decode cX0_grow 42 = .ok (.aload_n 0, 1) := by decide +kernel
theorem dX0_grow_43 : decode cX0_grow 43 = .ok (.iload_n 1, 1) := by decide +kernel
theorem dX0_grow_44 : decode cX0_grow 44 = .ok (.aload_n 0, 1) := by decide +kernel
theorem dX0_grow_45 : decode cX0_grow 45 = .ok (.getfield 31, 3) := by decide +kernel
theorem dX0_grow_48 : decode cX0_grow 48 = .ok (.iload_n 1, 1) := by decide +kernel
theorem dX0_grow_49 : decode cX0_grow 49 = .ok (.iaload, 1) := by decide +kernel
theorem dX0_grow_50 : decode cX0_grow 50 = .ok (.aload_n 0, 1) := by decide +kernel
theorem dX0_grow_51 : decode cX0_grow 51 = .ok (.iload_n 1, 1) := by decide +kernel
theorem dX0_grow_52 : decode cX0_grow 52 = .ok (.aload_n 0, 1) := by decide +kernel
theorem dX0_grow_53 : decode cX0_grow 53 = .ok (.getfield 64, 3) := by decide +kernel
theorem dX0_grow_56 : decode cX0_grow 56 = .ok (.aload_n 0, 1) := by decide +kernel
theorem dX0_grow_57 : decode cX0_grow 57 = .ok (.getfield 67, 3) := by decide +kernel
theorem dX0_grow_60 : decode cX0_grow 60 = .ok (.invokevirtual 133, 3) := by decide +kernel
theorem dX0_grow_63 : decode cX0_grow 63 = .ok (.aload_n 0, 1) := by decide +kernel
theorem dX0_grow_64 : decode cX0_grow 64 = .ok (.getfield 58, 3) := by decide +kernel
theorem dX0_grow_67 : decode cX0_grow 67 = .ok (.invokevirtual 136, 3) := by decide +kernel
theorem dX0_grow_70 : decode cX0_grow 70 = .ok (.istore_n 3, 1) := by decide +kernel
theorem dX0_grow_71 : decode cX0_grow 71 = .ok (.iconst 0, 1) := by decide +kernel
theorem dX0_grow_72 : decode cX0_grow 72 = .ok (.istore 4, 2) := by decide +kernel
theorem dX0_grow_74 : decode cX0_grow 74 = .ok (.iload 4, 2) := by decide +kernel
theorem dX0_grow_76 : decode cX0_grow 76 = .ok (.aload_n 0, 1) := by decide +kernel
theorem dX0_grow_77 : decode cX0_grow 77 = .ok (.getfield 9, 3) := by decide +kernel
theorem dX0_grow_80 : decode cX0_grow 80 = .ok (.if_icmp .ge 29, 3) := by decide +kernel
theorem dX0_grow_83 : decode cX0_grow 83 = .ok (.iload_n 3, 1) := by decide +kernel
theorem dX0_grow_84 : decode cX0_grow 84 = .ok (.iload 4, 2) := by decide +kernel
theorem dX0_grow_86 : decode cX0_grow 86 = .ok (.invokestatic 103, 3) := by decide +kernel
theorem dX0_grow_89 : decode cX0_grow 89 = .ok (.ifCond .eq 14, 3) := by decide +kernel
theorem dX0_grow_92 : decode cX0_grow 92 = .ok (.aload_n 0, 1) := by decide +kernel
theorem dX0_grow_93 : decode cX0_grow 93 = .ok (.getfield 22, 3) := by decide +kernel
theorem dX0_grow_96 : decode cX0_grow 96 = .ok (.iload 4, 2) := by decide +kernel
theorem dX0_grow_98 : decode cX0_grow 98 = .ok (.dup2, 1) := by decide +kernel
theorem dX0_grow_99 : decode cX0_grow 99 = .ok (.iaload, 1) := by decide +kernel
theorem dX0_grow_100 : decode cX0_grow 100 = .ok (.iload_n 2, 1) := by decide +kernel
theorem dX0_grow_101 : decode cX0_grow 101 = .ok (.iadd, 1) := by decide +kernel
theorem dX0_grow_102 : decode cX0_grow 102 = .ok (.iastore, 1) := by decide +kernel
theorem dX0_grow_103 : decode cX0_grow 103 = .ok (.iinc 4 1, 3) := by decide +kernel
theorem dX0_grow_106 : decode cX0_grow 106 = .ok (.goto (-32), 3) := by decide +kernel
theorem dX0_grow_109 : decode cX0_grow 109 = .ok (.iinc 1 1, 3) := by decide +kernel
theorem dX0_grow_112 : decode cX0_grow 112 = .ok (.goto (-102), 3) := by decide +kernel
theorem dX0_grow_115 : decode cX0_grow 115 = .ok (.iconst 0, 1) := by decide +kernel
theorem dX0_grow_116 : decode cX0_grow 116 = .ok (.istore_n 1, 1) := by decide +kernel
theorem dX0_grow_117 : decode cX0_grow 117 = .ok (.iload_n 1, 1) := by decide +kernel
theorem dX0_grow_118 : decode cX0_grow 118 = .ok (.aload_n 0, 1) := by decide +kernel
theorem dX0_grow_119 : decode cX0_grow 119 = .ok (.getfield 9, 3) := by decide +kernel
theorem dX0_grow_122 : decode cX0_grow 122 = .ok (.if_icmp .ge 42, 3) := by decide +kernel
theorem dX0_grow_125 : decode cX0_grow 125 = .ok (.aload_n 0, 1) := by decide +kernel
theorem dX0_grow_126 : decode cX0_grow 126 = .ok (.getfield 15, 3) := by decide +kernel
theorem dX0_grow_129 : decode cX0_grow 129 = .ok (.iload_n 1, 1) := by decide +kernel
theorem dX0_grow_130 : decode cX0_grow 130 = .ok (.aload_n 0, 1) := by decide +kernel
theorem dX0_grow_131 : decode cX0_grow 131 = .ok (.getfield 15, 3) := by decide +kernel
theorem dX0_grow_134 : decode cX0_grow 134 = .ok (.iload_n 1, 1) := by decide +kernel
theorem dX0_grow_135 : decode cX0_grow 135 = .ok (.iaload, 1) := by decide +kernel
theorem dX0_grow_136 : decode cX0_grow 136 = .ok (.aload_n 0, 1) := by decide +kernel
theorem dX0_grow_137 : decode cX0_grow 137 = .ok (.getfield 22, 3) := by decide +kernel
theorem dX0_grow_140 : decode cX0_grow 140 = .ok (.iload_n 1, 1) := by decide +kernel
theorem dX0_grow_141 : decode cX0_grow 141 = .ok (.iaload, 1) := by decide +kernel
theorem dX0_grow_142 : decode cX0_grow 142 = .ok (.iconst 2, 1) := by decide +kernel
theorem dX0_grow_143 : decode cX0_grow 143 = .ok (.idiv, 1) := by decide +kernel
theorem dX0_grow_144 : decode cX0_grow 144 = .ok (.iadd, 1) := by decide +kernel
theorem dX0_grow_145 : decode cX0_grow 145 = .ok (.aload_n 0, 1) := by decide +kernel
theorem dX0_grow_146 : decode cX0_grow 146 = .ok (.getfield 19, 3) := by decide +kernel
theorem dX0_grow_149 : decode cX0_grow 149 = .ok (.iload_n 1, 1) := by decide +kernel
theorem dX0_grow_150 : decode cX0_grow 150 = .ok (.iaload, 1) := by decide +kernel
theorem dX0_grow_151 : decode cX0_grow 151 = .ok (.isub, 1) := by decide +kernel
theorem dX0_grow_152 : decode cX0_grow 152 = .ok (.ldc 155, 2) := by decide +kernel
theorem dX0_grow_154 : decode cX0_grow 154 = .ok (.invokestatic 113, 3) := by decide +kernel
theorem dX0_grow_157 : decode cX0_grow 157 = .ok (.iastore, 1) := by decide +kernel
theorem dX0_grow_158 : decode cX0_grow 158 = .ok (.iinc 1 1, 3) := by decide +kernel
theorem dX0_grow_161 : decode cX0_grow 161 = .ok (.goto (-44), 3) := by decide +kernel
theorem dX0_grow_164 : decode cX0_grow 164 = .ok (.return_, 1) := by decide +kernel
set_option maxRecDepth 20000 in
theorem ggX0_goOn_X8_within : GoodIn wsX0_goOn wsX8_within := goodIn_r _ [6] (by decide +kernel) (by decide +kernel)
set_option maxRecDepth 20000 in
theorem gX0_goOn_X8_within_n162 : GoodIn wsX0_goOn (wsX8_within) := ggX0_goOn_X8_within
theorem dX0_goOn_0 : decode cX0_goOn 0 = .ok (.aload_n 0, 1) := by decide +kernel
theorem dX0_goOn_1 : decode cX0_goOn 1 = .ok (.getfield 31, 3) := by decide +kernel
theorem dX0_goOn_4 : decode cX0_goOn 4 = .ok (.iload_n 1, 1) := by decide +kernel
theorem dX0_goOn_5 : decode cX0_goOn 5 = .ok (.iaload, 1) := by decide +kernel
theorem dX0_goOn_6 : decode cX0_goOn 6 = .ok (.aload_n 0, 1) := by decide +kernel
theorem dX0_goOn_7 : decode cX0_goOn 7 = .ok (.getfield 34, 3) := by decide +kernel
theorem dX0_goOn_10 : decode cX0_goOn 10 = .ok (.iload_n 1, 1) := by decide +kernel
theorem dX0_goOn_11 : decode cX0_goOn 11 = .ok (.iaload, 1) := by decide +kernel
theorem dX0_goOn_12 : decode cX0_goOn 12 = .ok (.iadd, 1) := by decide +kernel
theorem dX0_goOn_13 : decode cX0_goOn 13 = .ok (.istore_n 2, 1) := by decide +kernel
theorem dX0_goOn_14 : decode cX0_goOn 14 = .ok (.iload_n 2, 1) := by decide +kernel
theorem dX0_goOn_15 : decode cX0_goOn 15 = .ok (.iconst 0, 1) := by decide +kernel
theorem dX0_goOn_16 : decode cX0_goOn 16 = .ok (.aload_n 0, 1) := by decide +kernel
theorem dX0_goOn_17 : decode cX0_goOn 17 = .ok (.getfield 9, 3) := by decide +kernel
theorem dX0_goOn_20 : decode cX0_goOn 20 = .ok (.iconst 1, 1) := by decide +kernel
theorem dX0_goOn_21 : decode cX0_goOn 21 = .ok (.isub, 1) := by decide +kernel
theorem dX0_goOn_22 : decode cX0_goOn 22 = .ok (.invokestatic 162, 3) := by decide +kernel
theorem dX0_goOn_25 : decode cX0_goOn 25 = .ok (.ifCond .eq 13, 3) := by decide +kernel
theorem dX0_goOn_28 : decode cX0_goOn 28 = .ok (.aload_n 0, 1) := by decide +kernel
theorem dX0_goOn_29 : decode cX0_goOn 29 = .ok (.getfield 31, 3) := by decide +kernel
theorem dX0_goOn_32 : decode cX0_goOn 32 = .ok (.iload_n 1, 1) := by decide +kernel
theorem dX0_goOn_33 : decode cX0_goOn 33 = .ok (.iload_n 2, 1) := by decide +kernel
theorem dX0_goOn_34 : decode cX0_goOn 34 = .ok (.iastore, 1) := by decide +kernel
theorem dX0_goOn_35 : decode cX0_goOn 35 = .ok (.goto 16, 3) := by decide +kernel
theorem dX0_goOn_38 : decode cX0_goOn 38 = .ok (.aload_n 0, 1) := by decide +kernel
theorem dX0_goOn_39 : decode cX0_goOn 39 = .ok (.getfield 34, 3) := by decide +kernel
theorem dX0_goOn_42 : decode cX0_goOn 42 = .ok (.iload_n 1, 1) := by decide +kernel
theorem dX0_goOn_43 : decode cX0_goOn 43 = .ok (.aload_n 0, 1) := by decide +kernel
theorem dX0_goOn_44 : decode cX0_goOn 44 = .ok (.getfield 34, 3) := by decide +kernel
theorem dX0_goOn_47 : decode cX0_goOn 47 = .ok (.iload_n 1, 1) := by decide +kernel
theorem dX0_goOn_48 : decode cX0_goOn 48 = .ok (.iaload, 1) := by decide +kernel
theorem dX0_goOn_49 : decode cX0_goOn 49 = .ok (.ineg, 1) := by decide +kernel
theorem dX0_goOn_50 : decode cX0_goOn 50 = .ok (.iastore, 1) := by decide +kernel
theorem dX0_goOn_51 : decode cX0_goOn 51 = .ok (.return_, 1) := by decide +kernel
set_option maxRecDepth 20000 in
theorem ggX0_turnOneByDraws_X0_draw : GoodIn wsX0_turnOneByDraws wsX0_draw := goodIn_r _ [7, 8, 9, 10, 11, 12, 13, 14, 15, 16, 17, 18, 19, 20, 21, 22, 23, 24, 25, 26, 27, 28] (by decide +kernel) (by decide +kernel)
set_option maxRecDepth 20000 in
theorem gX0_turnOneByDraws_X0_draw : GoodIn wsX0_turnOneByDraws (wsV RX0 166 RX0 yX0_draw wsX0_draw) := goodIn_app (goodIn_of _ (by decide +kernel)) ggX0_turnOneByDraws_X0_draw
theorem dX0_turnOneByDraws_0 : decode cX0_turnOneByDraws 0 = .ok (.aload_n 0, 1) := by decide +kernel
theorem dX0_turnOneByDraws_1 : decode cX0_turnOneByDraws 1 = .ok (.getfield 73, 3) := by decide +kernel
theorem dX0_turnOneByDraws_4 : decode cX0_turnOneByDraws 4 = .ok (.ifCond .le 27, 3) := by decide +kernel
theorem dX0_turnOneByDraws_7 : decode cX0_turnOneByDraws 7 = .ok (.aload_n 0, 1) := by decide +kernel
theorem dX0_turnOneByDraws_8 : decode cX0_turnOneByDraws 8 = .ok (.invokevirtual 166, 3) := by decide +kernel
theorem dX0_turnOneByDraws_11 : decode cX0_turnOneByDraws 11 = .ok (.aload_n 0, 1) := by decide +kernel
theorem dX0_turnOneByDraws_12 : decode cX0_turnOneByDraws 12 = .ok (.getfield 73, 3) := by decide +kernel
theorem dX0_turnOneByDraws_15 : decode cX0_turnOneByDraws 15 = .ok (.irem, 1) := by decide +kernel
theorem dX0_turnOneByDraws_16 : decode cX0_turnOneByDraws 16 = .ok (.istore_n 1, 1) := by decide +kernel
theorem dX0_turnOneByDraws_17 : decode cX0_turnOneByDraws 17 = .ok (.aload_n 0, 1) := by decide +kernel
theorem dX0_turnOneByDraws_18 : decode cX0_turnOneByDraws 18 = .ok (.getfield 34, 3) := by decide +kernel
theorem dX0_turnOneByDraws_21 : decode cX0_turnOneByDraws 21 = .ok (.iload_n 1, 1) := by decide +kernel
theorem dX0_turnOneByDraws_22 : decode cX0_turnOneByDraws 22 = .ok (.aload_n 0, 1) := by decide +kernel
theorem dX0_turnOneByDraws_23 : decode cX0_turnOneByDraws 23 = .ok (.invokevirtual 166, 3) := by decide +kernel
theorem dX0_turnOneByDraws_26 : decode cX0_turnOneByDraws 26 = .ok (.iconst 3, 1) := by decide +kernel
theorem dX0_turnOneByDraws_27 : decode cX0_turnOneByDraws 27 = .ok (.irem, 1) := by decide +kernel
theorem dX0_turnOneByDraws_28 : decode cX0_turnOneByDraws 28 = .ok (.iconst 1, 1) := by decide +kernel
theorem dX0_turnOneByDraws_29 : decode cX0_turnOneByDraws 29 = .ok (.isub, 1) := by decide +kernel
theorem dX0_turnOneByDraws_30 : decode cX0_turnOneByDraws 30 = .ok (.iastore, 1) := by decide +kernel
theorem dX0_turnOneByDraws_31 : decode cX0_turnOneByDraws 31 = .ok (.return_, 1) := by decide +kernel
theorem dX0_draw_0 : decode cX0_draw 0 = .ok (.aload_n 0, 1) := by decide +kernel
theorem dX0_draw_1 : decode cX0_draw 1 = .ok (.aload_n 0, 1) := by decide +kernel
theorem dX0_draw_2 : decode cX0_draw 2 = .ok (.getfield 49, 3) := by decide +kernel
theorem dX0_draw_5 : decode cX0_draw 5 = .ok (.ldc 170, 2) := by decide +kernel
theorem dX0_draw_7 : decode cX0_draw 7 = .ok (.imul, 1) := by decide +kernel
theorem dX0_draw_8 : decode cX0_draw 8 = .ok (.sipush 12345, 3) := by decide +kernel
theorem dX0_draw_11 : decode cX0_draw 11 = .ok (.iadd, 1) := by decide +kernel
theorem dX0_draw_12 : decode cX0_draw 12 = .ok (.putfield 49, 3) := by decide +kernel
theorem dX0_draw_15 : decode cX0_draw 15 = .ok (.aload_n 0, 1) := by decide +kernel
theorem dX0_draw_16 : decode cX0_draw 16 = .ok (.getfield 49, 3) := by decide +kernel
theorem dX0_draw_19 : decode cX0_draw 19 = .ok (.bipush 8, 2) := by decide +kernel
theorem dX0_draw_21 : decode cX0_draw 21 = .ok (.iushr, 1) := by decide +kernel
theorem dX0_draw_22 : decode cX0_draw 22 = .ok (.ireturn, 1) := by decide +kernel
set_option maxRecDepth 20000 in
theorem ggX0_addUpLeaning_X8_has : GoodIn wsX0_addUpLeaning wsX8_has := goodIn_r _ [7] (by decide +kernel) (by decide +kernel)
set_option maxRecDepth 20000 in
theorem gX0_addUpLeaning_X8_has_n103 : GoodIn wsX0_addUpLeaning (wsX8_has) := ggX0_addUpLeaning_X8_has
set_option maxRecDepth 20000 in
theorem ggX0_addUpLeaning_X8_held : GoodIn wsX0_addUpLeaning wsX8_held := goodIn_r _ [9] (by decide +kernel) (by decide +kernel)
set_option maxRecDepth 20000 in
theorem gX0_addUpLeaning_X8_held_n113 : GoodIn wsX0_addUpLeaning (wsX8_held) := ggX0_addUpLeaning_X8_held
theorem dX0_addUpLeaning_0 : decode cX0_addUpLeaning 0 = .ok (.iconst 0, 1) := by decide +kernel
theorem dX0_addUpLeaning_1 : decode cX0_addUpLeaning 1 = .ok (.istore_n 1, 1) := by decide +kernel
theorem dX0_addUpLeaning_2 : decode cX0_addUpLeaning 2 = .ok (.iload_n 1, 1) := by decide +kernel
theorem dX0_addUpLeaning_3 : decode cX0_addUpLeaning 3 = .ok (.aload_n 0, 1) := by decide +kernel
theorem dX0_addUpLeaning_4 : decode cX0_addUpLeaning 4 = .ok (.getfield 9, 3) := by decide +kernel
theorem dX0_addUpLeaning_7 : decode cX0_addUpLeaning 7 = .ok (.iconst 1, 1) := by decide +kernel
theorem dX0_addUpLeaning_8 : decode cX0_addUpLeaning 8 = .ok (.isub, 1) := by decide +kernel
theorem dX0_addUpLeaning_9 : decode cX0_addUpLeaning 9 = .ok (.if_icmp .ge 67, 3) := by decide +kernel
theorem dX0_addUpLeaning_12 : decode cX0_addUpLeaning 12 = .ok (.aload_n 0, 1) := by decide +kernel
theorem dX0_addUpLeaning_13 : decode cX0_addUpLeaning 13 = .ok (.getfield 61, 3) := by decide +kernel
theorem dX0_addUpLeaning_16 : decode cX0_addUpLeaning 16 = .ok (.iload_n 1, 1) := by decide +kernel
theorem dX0_addUpLeaning_17 : decode cX0_addUpLeaning 17 = .ok (.invokestatic 103, 3) := by decide +kernel
theorem dX0_addUpLeaning_20 : decode cX0_addUpLeaning 20 = .ok (.ifCond .eq 50, 3) := by decide +kernel
theorem dX0_addUpLeaning_23 : decode cX0_addUpLeaning 23 = .ok (.aload_n 0, 1) := by decide +kernel
theorem dX0_addUpLeaning_24 : decode cX0_addUpLeaning 24 = .ok (.getfield 15, 3) := by decide +kernel
theorem dX0_addUpLeaning_27 : decode cX0_addUpLeaning 27 = .ok (.iload_n 1, 1) := by decide +kernel
theorem dX0_addUpLeaning_28 : decode cX0_addUpLeaning 28 = .ok (.iaload, 1) := by decide +kernel
theorem dX0_addUpLeaning_29 : decode cX0_addUpLeaning 29 = .ok (.bipush 9, 2) := by decide +kernel
theorem dX0_addUpLeaning_31 : decode cX0_addUpLeaning 31 = .ok (.irem, 1) := by decide +kernel
theorem dX0_addUpLeaning_32 : decode cX0_addUpLeaning 32 = .ok (.istore_n 2, 1) := by decide +kernel
theorem dX0_addUpLeaning_33 : decode cX0_addUpLeaning 33 = .ok (.aload_n 0, 1) := by decide +kernel
theorem dX0_addUpLeaning_34 : decode cX0_addUpLeaning 34 = .ok (.getfield 15, 3) := by decide +kernel
theorem dX0_addUpLeaning_37 : decode cX0_addUpLeaning 37 = .ok (.iload_n 1, 1) := by decide +kernel
theorem dX0_addUpLeaning_38 : decode cX0_addUpLeaning 38 = .ok (.iconst 1, 1) := by decide +kernel
theorem dX0_addUpLeaning_39 : decode cX0_addUpLeaning 39 = .ok (.iadd, 1) := by decide +kernel
theorem dX0_addUpLeaning_40 : decode cX0_addUpLeaning 40 = .ok (.aload_n 0, 1) := by decide +kernel
theorem dX0_addUpLeaning_41 : decode cX0_addUpLeaning 41 = .ok (.getfield 15, 3) := by decide +kernel
theorem dX0_addUpLeaning_44 : decode cX0_addUpLeaning 44 = .ok (.iload_n 1, 1) := by decide +kernel
theorem dX0_addUpLeaning_45 : decode cX0_addUpLeaning 45 = .ok (.iconst 1, 1) := by decide +kernel
theorem dX0_addUpLeaning_46 : decode cX0_addUpLeaning 46 = .ok (.iadd, 1) := by decide +kernel
theorem dX0_addUpLeaning_47 : decode cX0_addUpLeaning 47 = .ok (.iaload, 1) := by decide +kernel
theorem dX0_addUpLeaning_48 : decode cX0_addUpLeaning 48 = .ok (.aload_n 0, 1) := by decide +kernel
theorem dX0_addUpLeaning_49 : decode cX0_addUpLeaning 49 = .ok (.getfield 15, 3) := by decide +kernel
theorem dX0_addUpLeaning_52 : decode cX0_addUpLeaning 52 = .ok (.iload_n 1, 1) := by decide +kernel
theorem dX0_addUpLeaning_53 : decode cX0_addUpLeaning 53 = .ok (.iaload, 1) := by decide +kernel
theorem dX0_addUpLeaning_54 : decode cX0_addUpLeaning 54 = .ok (.iadd, 1) := by decide +kernel
theorem dX0_addUpLeaning_55 : decode cX0_addUpLeaning 55 = .ok (.iload_n 2, 1) := by decide +kernel
theorem dX0_addUpLeaning_56 : decode cX0_addUpLeaning 56 = .ok (.isub, 1) := by decide +kernel
theorem dX0_addUpLeaning_57 : decode cX0_addUpLeaning 57 = .ok (.ldc 155, 2) := by decide +kernel
theorem dX0_addUpLeaning_59 : decode cX0_addUpLeaning 59 = .ok (.invokestatic 113, 3) := by decide +kernel
theorem dX0_addUpLeaning_62 : decode cX0_addUpLeaning 62 = .ok (.iastore, 1) := by decide +kernel
theorem dX0_addUpLeaning_63 : decode cX0_addUpLeaning 63 = .ok (.aload_n 0, 1) := by decide +kernel
theorem dX0_addUpLeaning_64 : decode cX0_addUpLeaning 64 = .ok (.getfield 15, 3) := by decide +kernel
theorem dX0_addUpLeaning_67 : decode cX0_addUpLeaning 67 = .ok (.iload_n 1, 1) := by decide +kernel
theorem dX0_addUpLeaning_68 : decode cX0_addUpLeaning 68 = .ok (.iload_n 2, 1) := by decide +kernel
theorem dX0_addUpLeaning_69 : decode cX0_addUpLeaning 69 = .ok (.iastore, 1) := by decide +kernel
theorem dX0_addUpLeaning_70 : decode cX0_addUpLeaning 70 = .ok (.iinc 1 1, 3) := by decide +kernel
theorem dX0_addUpLeaning_73 : decode cX0_addUpLeaning 73 = .ok (.goto (-71), 3) := by decide +kernel
theorem dX0_addUpLeaning_76 : decode cX0_addUpLeaning 76 = .ok (.return_, 1) := by decide +kernel
theorem dX0_divideGrains_0 : decode cX0_divideGrains 0 = .ok (.iconst 0, 1) := by decide +kernel
theorem dX0_divideGrains_1 : decode cX0_divideGrains 1 = .ok (.istore_n 2, 1) := by decide +kernel
theorem dX0_divideGrains_2 : decode cX0_divideGrains 2 = .ok (.iload_n 2, 1) := by decide +kernel
theorem dX0_divideGrains_3 : decode cX0_divideGrains 3 = .ok (.aload_n 0, 1) := by decide +kernel
theorem dX0_divideGrains_4 : decode cX0_divideGrains 4 = .ok (.getfield 9, 3) := by decide +kernel
theorem dX0_divideGrains_7 : decode cX0_divideGrains 7 = .ok (.if_icmp .ge 27, 3) := by decide +kernel
theorem dX0_divideGrains_10 : decode cX0_divideGrains 10 = .ok (.iload_n 1, 1) := by decide +kernel
theorem dX0_divideGrains_11 : decode cX0_divideGrains 11 = .ok (.ifCond .eq 23, 3) := by decide +kernel
theorem dX0_divideGrains_14 : decode cX0_divideGrains 14 = .ok (.aload_n 0, 1) := by decide +kernel
theorem dX0_divideGrains_15 : decode cX0_divideGrains 15 = .ok (.getfield 15, 3) := by decide +kernel
theorem dX0_divideGrains_18 : decode cX0_divideGrains 18 = .ok (.iload_n 2, 1) := by decide +kernel
theorem dX0_divideGrains_19 : decode cX0_divideGrains 19 = .ok (.aload_n 0, 1) := by decide +kernel
theorem dX0_divideGrains_20 : decode cX0_divideGrains 20 = .ok (.getfield 15, 3) := by decide +kernel
theorem dX0_divideGrains_23 : decode cX0_divideGrains 23 = .ok (.iload_n 2, 1) := by decide +kernel
theorem dX0_divideGrains_24 : decode cX0_divideGrains 24 = .ok (.iaload, 1) := by decide +kernel
theorem dX0_divideGrains_25 : decode cX0_divideGrains 25 = .ok (.iload_n 1, 1) := by decide +kernel
theorem dX0_divideGrains_26 : decode cX0_divideGrains 26 = .ok (.idiv, 1) := by decide +kernel
theorem dX0_divideGrains_27 : decode cX0_divideGrains 27 = .ok (.iastore, 1) := by decide +kernel
theorem dX0_divideGrains_28 : decode cX0_divideGrains 28 = .ok (.iinc 2 1, 3) := by decide +kernel
theorem dX0_divideGrains_31 : decode cX0_divideGrains 31 = .ok (.goto (-29), 3) := by decide +kernel
theorem dX0_divideGrains_34 : decode cX0_divideGrains 34 = .ok (.return_, 1) := by decide +kernel
set_option maxRecDepth 20000 in
theorem ggX1_above_X8_within : GoodIn wsX1_above wsX8_within := goodIn_r _ [4] (by decide +kernel) (by decide +kernel)
set_option maxRecDepth 20000 in
theorem gX1_above_X8_within_n9 : GoodIn wsX1_above (wsX8_within) := ggX1_above_X8_within
theorem dX1_above_0 : decode cX1_above 0 = .ok (.iload_n 0, 1) := by decide +kernel
theorem dX1_above_1 : decode cX1_above 1 = .ok (.iconst 0, 1) := by decide +kernel
theorem dX1_above_2 : decode cX1_above 2 = .ok (.bipush 6, 2) := by decide +kernel
theorem dX1_above_4 : decode cX1_above 4 = .ok (.invokestatic 9, 3) := by decide +kernel
theorem dX1_above_7 : decode cX1_above 7 = .ok (.ifCond .eq 11, 3) := by decide +kernel
theorem dX1_above_10 : decode cX1_above 10 = .ok (.getstatic 15, 3) := by decide +kernel
theorem dX1_above_13 : decode cX1_above 13 = .ok (.iload_n 0, 1) := by decide +kernel
theorem dX1_above_14 : decode cX1_above 14 = .ok (.iaload, 1) := by decide +kernel
theorem dX1_above_15 : decode cX1_above 15 = .ok (.goto 4, 3) := by decide +kernel
theorem dX1_above_18 : decode cX1_above 18 = .ok (.iconst (-1), 1) := by decide +kernel
theorem dX1_above_19 : decode cX1_above 19 = .ok (.ireturn, 1) := by decide +kernel
set_option maxRecDepth 20000 in
theorem ggX1_isOneOf_X1_above : GoodIn wsX1_isOneOf wsX1_above := goodIn_r _ [4, 5, 6, 7, 8] (by decide +kernel) (by decide +kernel)
set_option maxRecDepth 20000 in
theorem gX1_isOneOf_X1_above : GoodIn wsX1_isOneOf (va_wsS RX1 19 yX1_above wsX1_above) := goodIn_app (goodIn_of _ (by decide +kernel)) ggX1_isOneOf_X1_above
theorem dX1_isOneOf_0 : decode cX1_isOneOf 0 = .ok (.iload_n 0, 1) := by decide +kernel
theorem dX1_isOneOf_1 : decode cX1_isOneOf 1 = .ok (.istore_n 2, 1) := by decide +kernel
theorem dX1_isOneOf_2 : decode cX1_isOneOf 2 = .ok (.iconst 0, 1) := by decide +kernel
theorem dX1_isOneOf_3 : decode cX1_isOneOf 3 = .ok (.istore_n 3, 1) := by decide +kernel
theorem dX1_isOneOf_4 : decode cX1_isOneOf 4 = .ok (.iload_n 3, 1) := by decide +kernel
theorem dX1_isOneOf_5 : decode cX1_isOneOf 5 = .ok (.bipush 6, 2) := by decide +kernel
theorem dX1_isOneOf_7 : decode cX1_isOneOf 7 = .ok (.if_icmp .gt 25, 3) := by decide +kernel
theorem dX1_isOneOf_10 : decode cX1_isOneOf 10 = .ok (.iload_n 2, 1) := by decide +kernel
theorem dX1_isOneOf_11 : decode cX1_isOneOf 11 = .ok (.ifCond .lt 21, 3) := by decide +kernel
theorem dX1_isOneOf_14 : decode cX1_isOneOf 14 = .ok (.iload_n 2, 1) := by decide +kernel
theorem dX1_isOneOf_15 : decode cX1_isOneOf 15 = .ok (.iload_n 1, 1) := by decide +kernel
theorem dX1_isOneOf_16 : decode cX1_isOneOf 16 = .ok (.if_icmp .ne 5, 3) := by decide +kernel
theorem dX1_isOneOf_19 : decode cX1_isOneOf 19 = .ok (.iconst 1, 1) := by decide +kernel
theorem dX1_isOneOf_20 : decode cX1_isOneOf 20 = .ok (.ireturn, 1) := by decide +kernel
theorem dX1_isOneOf_21 : decode cX1_isOneOf 21 = .ok (.iload_n 2, 1) := by decide +kernel
theorem dX1_isOneOf_22 : decode cX1_isOneOf 22 = .ok (.invokestatic 19, 3) := by decide +kernel
theorem dX1_isOneOf_25 : decode cX1_isOneOf 25 = .ok (.istore_n 2, 1) := by decide +kernel
theorem dX1_isOneOf_26 : decode cX1_isOneOf 26 = .ok (.iinc 3 1, 3) := by decide +kernel
theorem dX1_isOneOf_29 : decode cX1_isOneOf 29 = .ok (.goto (-25), 3) := by decide +kernel
theorem dX1_isOneOf_32 : decode cX1_isOneOf 32 = .ok (.iconst 0, 1) := by decide +kernel
theorem dX1_isOneOf_33 : decode cX1_isOneOf 33 = .ok (.ireturn, 1) := by decide +kernel
theorem dX1_sightOf_0 : decode cX1_sightOf 0 = .ok (.iload_n 0, 1) := by decide +kernel
theorem dX1_sightOf_1 : decode cX1_sightOf 1 = .ok (.tableswitch 49 2 6 #[35, 49, 39, 35, 43], 35) := by decide +kernel
theorem dX1_sightOf_36 : decode cX1_sightOf 36 = .ok (.iload_n 2, 1) := by decide +kernel
theorem dX1_sightOf_37 : decode cX1_sightOf 37 = .ok (.iconst 2, 1) := by decide +kernel
theorem dX1_sightOf_38 : decode cX1_sightOf 38 = .ok (.idiv, 1) := by decide +kernel
theorem dX1_sightOf_39 : decode cX1_sightOf 39 = .ok (.ireturn, 1) := by decide +kernel
theorem dX1_sightOf_40 : decode cX1_sightOf 40 = .ok (.iload_n 2, 1) := by decide +kernel
theorem dX1_sightOf_41 : decode cX1_sightOf 41 = .ok (.iconst 1, 1) := by decide +kernel
theorem dX1_sightOf_42 : decode cX1_sightOf 42 = .ok (.iadd, 1) := by decide +kernel
theorem dX1_sightOf_43 : decode cX1_sightOf 43 = .ok (.ireturn, 1) := by decide +kernel
theorem dX1_sightOf_44 : decode cX1_sightOf 44 = .ok (.iload_n 2, 1) := by decide +kernel
theorem dX1_sightOf_45 : decode cX1_sightOf 45 = .ok (.iload_n 1, 1) := by decide +kernel
theorem dX1_sightOf_46 : decode cX1_sightOf 46 = .ok (.iconst 3, 1) := by decide +kernel
theorem dX1_sightOf_47 : decode cX1_sightOf 47 = .ok (.irem, 1) := by decide +kernel
theorem dX1_sightOf_48 : decode cX1_sightOf 48 = .ok (.iadd, 1) := by decide +kernel
theorem dX1_sightOf_49 : decode cX1_sightOf 49 = .ok (.ireturn, 1) := by decide +kernel
theorem dX1_sightOf_50 : decode cX1_sightOf 50 = .ok (.iload_n 2, 1) := by decide +kernel
theorem dX1_sightOf_51 : decode cX1_sightOf 51 = .ok (.ireturn, 1) := by decide +kernel
theorem dX1_countsOf_0 : decode cX1_countsOf 0 = .ok (.iload_n 0, 1) := by decide +kernel
theorem dX1_countsOf_1 : decode cX1_countsOf 1 = .ok (.tableswitch 47 1 5 #[35, 37, 39, 35, 41], 35) := by decide +kernel
theorem dX1_countsOf_36 : decode cX1_countsOf 36 = .ok (.iconst 4, 1) := by decide +kernel
theorem dX1_countsOf_37 : decode cX1_countsOf 37 = .ok (.ireturn, 1) := by decide +kernel
theorem dX1_countsOf_38 : decode cX1_countsOf 38 = .ok (.iconst 1, 1) := by decide +kernel
theorem dX1_countsOf_39 : decode cX1_countsOf 39 = .ok (.ireturn, 1) := by decide +kernel
theorem dX1_countsOf_40 : decode cX1_countsOf 40 = .ok (.iconst 0, 1) := by decide +kernel
theorem dX1_countsOf_41 : decode cX1_countsOf 41 = .ok (.ireturn, 1) := by decide +kernel
theorem dX1_countsOf_42 : decode cX1_countsOf 42 = .ok (.iconst 1, 1) := by decide +kernel
theorem dX1_countsOf_43 : decode cX1_countsOf 43 = .ok (.iload_n 1, 1) := by decide +kernel
theorem dX1_countsOf_44 : decode cX1_countsOf 44 = .ok (.iconst 2, 1) := by decide +kernel
theorem dX1_countsOf_45 : decode cX1_countsOf 45 = .ok (.irem, 1) := by decide +kernel
theorem dX1_countsOf_46 : decode cX1_countsOf 46 = .ok (.iadd, 1) := by decide +kernel
theorem dX1_countsOf_47 : decode cX1_countsOf 47 = .ok (.ireturn, 1) := by decide +kernel
theorem dX1_countsOf_48 : decode cX1_countsOf 48 = .ok (.iconst 2, 1) := by decide +kernel
theorem dX1_countsOf_49 : decode cX1_countsOf 49 = .ok (.ireturn, 1) := by decide +kernel
theorem dX1_takesOf_0 : decode cX1_takesOf 0 = .ok (.iload_n 0, 1) := by decide +kernel
theorem dX1_takesOf_1 : decode cX1_takesOf 1 = .ok (.lookupswitch 33 #[(3, 27), (6, 29)], 27) := by decide +kernel
theorem dX1_takesOf_28 : decode cX1_takesOf 28 = .ok (.iload_n 1, 1) := by decide +kernel
theorem dX1_takesOf_29 : decode cX1_takesOf 29 = .ok (.ireturn, 1) := by decide +kernel
theorem dX1_takesOf_30 : decode cX1_takesOf 30 = .ok (.iload_n 1, 1) := by decide +kernel
theorem dX1_takesOf_31 : decode cX1_takesOf 31 = .ok (.iconst 2, 1) := by decide +kernel
theorem dX1_takesOf_32 : decode cX1_takesOf 32 = .ok (.idiv, 1) := by decide +kernel
theorem dX1_takesOf_33 : decode cX1_takesOf 33 = .ok (.ireturn, 1) := by decide +kernel
theorem dX1_takesOf_34 : decode cX1_takesOf 34 = .ok (.iconst 0, 1) := by decide +kernel
theorem dX1_takesOf_35 : decode cX1_takesOf 35 = .ok (.ireturn, 1) := by decide +kernel
theorem dX2_init_0 : decode cX2_init 0 = .ok (.aload_n 0, 1) := by decide +kernel
theorem dX2_init_1 : decode cX2_init 1 = .ok (.invokespecial 3, 3) := by decide +kernel
theorem dX2_init_4 : decode cX2_init 4 = .ok (.aload_n 0, 1) := by decide +kernel
theorem dX2_init_5 : decode cX2_init 5 = .ok (.iconst 4, 1) := by decide +kernel
theorem dX2_init_6 : decode cX2_init 6 = .ok (.newarray .int, 2) := by decide +kernel
theorem dX2_init_8 : decode cX2_init 8 = .ok (.putfield 11, 3) := by decide +kernel
theorem dX2_init_11 : decode cX2_init 11 = .ok (.aload_n 0, 1) := by decide +kernel
theorem dX2_init_12 : decode cX2_init 12 = .ok (.sipush 240, 3) := by decide +kernel
theorem dX2_init_15 : decode cX2_init 15 = .ok (.newarray .int, 2) := by decide +kernel
theorem dX2_init_17 : decode cX2_init 17 = .ok (.putfield 15, 3) := by decide +kernel
theorem dX2_init_20 : decode cX2_init 20 = .ok (.aload_n 0, 1) := by decide +kernel
theorem dX2_init_21 : decode cX2_init 21 = .ok (.sipush 240, 3) := by decide +kernel
theorem dX2_init_24 : decode cX2_init 24 = .ok (.newarray .boolean, 2) := by decide +kernel
theorem dX2_init_26 : decode cX2_init 26 = .ok (.putfield 18, 3) := by decide +kernel
theorem dX2_init_29 : decode cX2_init 29 = .ok (.aload_n 0, 1) := by decide +kernel
theorem dX2_init_30 : decode cX2_init 30 = .ok (.bipush 8, 2) := by decide +kernel
theorem dX2_init_32 : decode cX2_init 32 = .ok (.newarray .int, 2) := by decide +kernel
theorem dX2_init_34 : decode cX2_init 34 = .ok (.putfield 22, 3) := by decide +kernel
theorem dX2_init_37 : decode cX2_init 37 = .ok (.return_, 1) := by decide +kernel
set_option maxRecDepth 20000 in
theorem ggX2_isFound_X8_held : GoodIn wsX2_isFound wsX8_held := goodIn_r _ [11] (by decide +kernel) (by decide +kernel)
set_option maxRecDepth 20000 in
theorem gX2_isFound_X8_held_n33 : GoodIn wsX2_isFound (wsX8_held) := ggX2_isFound_X8_held
set_option maxRecDepth 20000 in
theorem ggX2_isFound_J7_fill_53178 : GoodIn wsX2_isFound wsJ7_fill_53178 := goodIn_r _ [15] (by decide +kernel) (by decide +kernel)
set_option maxRecDepth 20000 in
theorem gX2_isFound_J7_fill_53178 : GoodIn wsX2_isFound (va_wsS RX2 40 yJ7_fill_53178 wsJ7_fill_53178) := goodIn_app (goodIn_of _ (by decide +kernel)) ggX2_isFound_J7_fill_53178
set_option maxRecDepth 20000 in
theorem ggX2_isFound_X2_lookUpWalks : GoodIn wsX2_isFound wsX2_lookUpWalks := goodIn_r _ [20, 1, 21, 22, 3, 23, 24, 25, 26, 27, 2, 28, 29, 30, 31, 32, 33, 34, 35, 36, 37, 38, 39, 40, 41, 42, 43, 44, 45, 46, 47, 48, 49, 50, 51, 52, 53, 54, 9, 10, 11, 55, 56, 57, 58, 59, 60, 19, 61, 62, 63, 64, 65, 66, 67, 68, 69, 70, 71, 72, 73, 74, 75, 76, 77, 78, 128, 129, 130, 131, 132, 133, 134, 135, 136, 137, 138, 139, 140, 141, 142, 143, 144, 145, 146, 147, 148, 149, 150, 151, 152, 153, 154, 155, 156] (by decide +kernel) (by decide +kernel)
set_option maxRecDepth 20000 in
theorem gX2_isFound_X2_lookUpWalks : GoodIn wsX2_isFound (wsV RX2 57 RX2 yX2_lookUpWalks wsX2_lookUpWalks) := goodIn_app (goodIn_of _ (by decide +kernel)) ggX2_isFound_X2_lookUpWalks
set_option maxRecDepth 20000 in
theorem ggX2_isFound_X2_harvest : GoodIn wsX2_isFound wsX2_harvest := goodIn_r _ [82, 1, 83, 2, 3, 6, 27, 7, 84, 85, 28, 24, 86, 87, 88, 89, 76, 77, 19, 78, 9, 10, 11, 90, 91, 92, 36, 93, 38, 39, 94, 95, 31, 96, 97, 98, 99, 100, 63, 64, 101, 102, 103, 104, 105, 45, 46, 47, 48, 49, 50, 51, 52, 53, 54, 106, 107, 108, 128, 129, 130, 131, 132, 133, 134, 135, 136, 137, 138, 139, 140, 141, 142, 143, 144, 145, 146, 147, 148, 149, 150, 151, 152, 153, 154, 155, 156] (by decide +kernel) (by decide +kernel)
set_option maxRecDepth 20000 in
theorem gX2_isFound_X2_harvest : GoodIn wsX2_isFound (wsV RX2 61 RX2 yX2_harvest wsX2_harvest) := goodIn_app (goodIn_of _ (by decide +kernel)) ggX2_isFound_X2_harvest
set_option maxRecDepth 20000 in
theorem ggX2_isFound_X2_mostHarvest : GoodIn wsX2_isFound wsX2_mostHarvest := goodIn_r _ [112, 1, 83, 2, 3, 6, 25, 27, 113, 114, 88, 115, 84, 85, 76, 77, 19, 78, 9, 10, 11, 128, 129, 130, 131, 132, 133, 134, 135, 136, 137, 138, 139, 140, 141, 142, 143, 144, 145, 146, 147, 148, 149, 150, 151, 152, 153, 154] (by decide +kernel) (by decide +kernel)
set_option maxRecDepth 20000 in
theorem gX2_isFound_X2_mostHarvest : GoodIn wsX2_isFound (wsV RX2 65 RX2 yX2_mostHarvest wsX2_mostHarvest) := goodIn_app (goodIn_of _ (by decide +kernel)) ggX2_isFound_X2_mostHarvest
set_option maxRecDepth 20000 in
theorem ggX2_isFound_X2_isFoundByOne : GoodIn wsX2_isFound wsX2_isFoundByOne := goodIn_r _ [119, 1, 6, 25, 7, 8, 5, 79, 80, 81, 19, 82, 83, 2, 3, 27, 84, 85, 28, 24, 86, 87, 88, 89, 76, 77, 78, 9, 10, 11, 90, 91, 92, 36, 93, 38, 39, 94, 95, 31, 96, 97, 98, 99, 100, 63, 64, 101, 102, 103, 104, 105, 45, 46, 47, 48, 49, 50, 51, 52, 53, 54, 106, 107, 108, 120, 121, 122, 123, 4, 128, 129, 130, 131, 132, 133, 134, 135, 136, 137, 138, 139, 140, 141, 142, 143, 144, 145, 146, 147, 148, 149, 150, 151, 152, 153, 154, 155, 156] (by decide +kernel) (by decide +kernel)
set_option maxRecDepth 20000 in
theorem gX2_isFound_X2_isFoundByOne : GoodIn wsX2_isFound (wsV RX2 68 RX2 yX2_isFoundByOne wsX2_isFoundByOne) := goodIn_app (goodIn_of _ (by decide +kernel)) ggX2_isFound_X2_isFoundByOne
set_option maxRecDepth 20000 in
theorem ggX2_isFound_X2_isFoundByTwo : GoodIn wsX2_isFound wsX2_isFoundByTwo := goodIn_r _ [127, 1, 6, 25, 7, 8, 5, 79, 80, 81, 19, 82, 83, 2, 3, 27, 84, 85, 28, 24, 86, 87, 88, 89, 76, 77, 78, 9, 10, 11, 90, 91, 92, 36, 93, 38, 39, 94, 95, 31, 96, 97, 98, 99, 100, 63, 64, 101, 102, 103, 104, 105, 45, 46, 47, 48, 49, 50, 51, 52, 53, 54, 106, 107, 108, 120, 121, 122, 123, 4, 128, 129, 130, 131, 132, 133, 134, 135, 136, 137, 138, 139, 140, 141, 142, 143, 144, 145, 146, 147, 148, 149, 150, 151, 152, 153, 154, 155, 156] (by decide +kernel) (by decide +kernel)
set_option maxRecDepth 20000 in
theorem gX2_isFound_X2_isFoundByTwo : GoodIn wsX2_isFound (wsV RX2 72 RX2 yX2_isFoundByTwo wsX2_isFoundByTwo) := goodIn_app (goodIn_of _ (by decide +kernel)) ggX2_isFound_X2_isFoundByTwo
theorem dX2_isFound_0 : decode cX2_isFound 0 = .ok (.aload_n 0, 1) := by decide +kernel
theorem dX2_isFound_1 : decode cX2_isFound 1 = .ok (.aload_n 1, 1) := by decide +kernel
theorem dX2_isFound_2 : decode cX2_isFound 2 = .ok (.putfield 25, 3) := by decide +kernel
theorem dX2_isFound_5 : decode cX2_isFound 5 = .ok (.aload_n 0, 1) := by decide +kernel
theorem dX2_isFound_6 : decode cX2_isFound 6 = .ok (.iload_n 2, 1) := by decide +kernel
theorem dX2_isFound_7 : decode cX2_isFound 7 = .ok (.putfield 29, 3) := by decide +kernel
theorem dX2_isFound_10 : decode cX2_isFound 10 = .ok (.aload_n 0, 1) := by decide +kernel
theorem dX2_isFound_11 : decode cX2_isFound 11 = .ok (.iload 4, 2) := by decide +kernel
theorem dX2_isFound_13 : decode cX2_isFound 13 = .ok (.iconst 3, 1) := by decide +kernel
theorem dX2_isFound_14 : decode cX2_isFound 14 = .ok (.invokestatic 33, 3) := by decide +kernel
