def wsX7_item : List Cond := .code yX7_item cX7_item 3 (some .boolean) :: ([.fieldLink RX7 13 "SecondTillModel" "text" "[I", .fieldLink RX7 66 "SecondTillModel" "at" "I", .fieldLink RX7 16 "SecondTillModel" "read" "[I", .methodLink RX7 77 yX7_number, .instanceMethod yX7_number, .selects RX7 yX7_number yX7_number, .initialized RX7, .code yX7_number cX7_number 7 (some .boolean), .fieldLink RX7 62 "SecondTillModel" "letters" "I", .methodLink RX7 73 yX7_isFigure, .instanceMethod yX7_isFigure, .selects RX7 yX7_isFigure yX7_isFigure, .code yX7_isFigure cX7_isFigure 1 (some .boolean), .constantLong RX7 69 (48), .constantLong RX7 71 (57), .methodLink RX7 44 yX7_in, .static yX7_in, .code yX7_in cX7_in 6 (some .boolean)] ++ wsX70)
def wsX7_fault : List Cond := .code yX7_fault cX7_fault 2 (some .int) :: ([.fieldLink RX7 16 "SecondTillModel" "read" "[I", .fieldLink RX7 66 "SecondTillModel" "at" "I", .fieldLink RX7 62 "SecondTillModel" "letters" "I", .methodLink RX7 81 yX7_item, .instanceMethod yX7_item, .selects RX7 yX7_item yX7_item, .initialized RX7, .code yX7_item cX7_item 3 (some .boolean), .fieldLink RX7 13 "SecondTillModel" "text" "[I", .methodLink RX7 77 yX7_number, .instanceMethod yX7_number, .selects RX7 yX7_number yX7_number, .code yX7_number cX7_number 7 (some .boolean), .methodLink RX7 73 yX7_isFigure, .instanceMethod yX7_isFigure, .selects RX7 yX7_isFigure yX7_isFigure, .code yX7_isFigure cX7_isFigure 1 (some .boolean), .constantLong RX7 69 (48), .constantLong RX7 71 (57), .methodLink RX7 44 yX7_in, .static yX7_in, .code yX7_in cX7_in 6 (some .boolean)] ++ wsX70)
def wsX7_lay_r1 : List Cond := [Cond.fieldLink RX7 16 "SecondTillModel" "read" "[I", Cond.fieldLink RX7 7 "SecondTillModel" "row" "[I", Cond.fieldLink RX7 88 "SecondTillModel" "taped" "I", Cond.fieldLink RX7 91 "SecondTillModel" "undos" "I", Cond.fieldLink RX7 94 "SecondTillModel" "keeps" "I", Cond.methodLink RX7 84 yX7_fault, Cond.instanceMethod yX7_fault, Cond.selects RX7 yX7_fault yX7_fault, Cond.initialized RX7, Cond.code yX7_fault cX7_fault 2 (some .int), Cond.fieldLink RX7 66 "SecondTillModel" "at" "I", Cond.fieldLink RX7 62 "SecondTillModel" "letters" "I", Cond.methodLink RX7 81 yX7_item, Cond.instanceMethod yX7_item, Cond.selects RX7 yX7_item yX7_item, Cond.code yX7_item cX7_item 3 (some .boolean), Cond.fieldLink RX7 13 "SecondTillModel" "text" "[I", Cond.methodLink RX7 77 yX7_number, Cond.instanceMethod yX7_number, Cond.selects RX7 yX7_number yX7_number, Cond.code yX7_number cX7_number 7 (some .boolean), Cond.methodLink RX7 73 yX7_isFigure, Cond.instanceMethod yX7_isFigure, Cond.selects RX7 yX7_isFigure yX7_isFigure]
def wsX7_lay_r2 : List Cond := [Cond.code yX7_isFigure cX7_isFigure 1 (some .boolean), Cond.constantLong RX7 69 (48), Cond.constantLong RX7 71 (57), Cond.methodLink RX7 44 yX7_in, Cond.static yX7_in, Cond.code yX7_in cX7_in 6 (some .boolean)]
def wsX7_lay : List Cond := .code yX7_lay cX7_lay 2 (some .int) :: ((wsX7_lay_r1 ++ wsX7_lay_r2) ++ wsX70)
def wsX7_notes : List Cond := .code yX7_notes cX7_notes 2 none :: ([.fieldLink RX7 91 "SecondTillModel" "undos" "I", .fieldLink RX7 19 "SecondTillModel" "undone" "[I", .fieldLink RX7 7 "SecondTillModel" "row" "[I"] ++ wsX70)
def wsX7_come : List Cond := .code yX7_come cX7_come 4 (some .int) :: ([.constantLong RX7 52 (3), .constantLong RX7 97 (20), .constantLong RX7 99 (9), .fieldLink RX7 7 "SecondTillModel" "row" "[I", .fieldLink RX7 88 "SecondTillModel" "taped" "I", .methodLink RX7 44 yX7_in, .static yX7_in, .initialized RX7, .code yX7_in cX7_in 6 (some .boolean), .methodLink RX7 101 yX7_notes, .instanceMethod yX7_notes, .selects RX7 yX7_notes yX7_notes, .code yX7_notes cX7_notes 2 none, .fieldLink RX7 91 "SecondTillModel" "undos" "I", .fieldLink RX7 19 "SecondTillModel" "undone" "[I", .methodLink RX7 40 yX7_stands, .instanceMethod yX7_stands, .selects RX7 yX7_stands yX7_stands, .code yX7_stands cX7_stands 5 none] ++ wsX70)
def wsX7_leave : List Cond := .code yX7_leave cX7_leave 2 (some .int) :: ([.fieldLink RX7 88 "SecondTillModel" "taped" "I", .fieldLink RX7 7 "SecondTillModel" "row" "[I", .methodLink RX7 48 yX7_isPerson, .instanceMethod yX7_isPerson, .selects RX7 yX7_isPerson yX7_isPerson, .initialized RX7, .code yX7_isPerson cX7_isPerson 2 (some .boolean), .methodLink RX7 44 yX7_in, .static yX7_in, .code yX7_in cX7_in 6 (some .boolean), .methodLink RX7 101 yX7_notes, .instanceMethod yX7_notes, .selects RX7 yX7_notes yX7_notes, .code yX7_notes cX7_notes 2 none, .fieldLink RX7 91 "SecondTillModel" "undos" "I", .fieldLink RX7 19 "SecondTillModel" "undone" "[I", .methodLink RX7 104 yX7_goesAway, .instanceMethod yX7_goesAway, .selects RX7 yX7_goesAway yX7_goesAway, .code yX7_goesAway cX7_goesAway 3 none] ++ wsX70)
def wsX7_goesBy : List Cond := .code yX7_goesBy cX7_goesBy 4 (some .int) :: ([.fieldLink RX7 7 "SecondTillModel" "row" "[I", .methodLink RX7 108 yX7_things, .instanceMethod yX7_things, .selects RX7 yX7_things yX7_things, .initialized RX7, .code yX7_things cX7_things 2 (some .int), .methodLink RX7 104 yX7_goesAway, .instanceMethod yX7_goesAway, .selects RX7 yX7_goesAway yX7_goesAway, .code yX7_goesAway cX7_goesAway 3 none] ++ wsX70)
def wsX7_pass_r1 : List Cond := [Cond.constantLong RX7 111 (200), Cond.fieldLink RX7 88 "SecondTillModel" "taped" "I", Cond.fieldLink RX7 7 "SecondTillModel" "row" "[I", Cond.methodLink RX7 44 yX7_in, Cond.static yX7_in, Cond.initialized RX7, Cond.code yX7_in cX7_in 6 (some .boolean), Cond.methodLink RX7 101 yX7_notes, Cond.instanceMethod yX7_notes, Cond.selects RX7 yX7_notes yX7_notes, Cond.code yX7_notes cX7_notes 2 none, Cond.fieldLink RX7 91 "SecondTillModel" "undos" "I", Cond.fieldLink RX7 19 "SecondTillModel" "undone" "[I", Cond.methodLink RX7 113 yX7_goesBy, Cond.instanceMethod yX7_goesBy, Cond.selects RX7 yX7_goesBy yX7_goesBy, Cond.code yX7_goesBy cX7_goesBy 4 (some .int), Cond.methodLink RX7 108 yX7_things, Cond.instanceMethod yX7_things, Cond.selects RX7 yX7_things yX7_things, Cond.code yX7_things cX7_things 2 (some .int), Cond.methodLink RX7 104 yX7_goesAway, Cond.instanceMethod yX7_goesAway, Cond.selects RX7 yX7_goesAway yX7_goesAway]
def wsX7_pass_r2 : List Cond := [Cond.code yX7_goesAway cX7_goesAway 3 none]
def wsX7_pass : List Cond := .code yX7_pass cX7_pass 2 (some .int) :: ((wsX7_pass_r1 ++ wsX7_pass_r2) ++ wsX70)
def wsX7_slow : List Cond := .code yX7_slow cX7_slow 3 (some .int) :: ([.constantLong RX7 99 (9), .fieldLink RX7 7 "SecondTillModel" "row" "[I", .methodLink RX7 44 yX7_in, .static yX7_in, .initialized RX7, .code yX7_in cX7_in 6 (some .boolean), .methodLink RX7 101 yX7_notes, .instanceMethod yX7_notes, .selects RX7 yX7_notes yX7_notes, .code yX7_notes cX7_notes 2 none, .fieldLink RX7 91 "SecondTillModel" "undos" "I", .fieldLink RX7 19 "SecondTillModel" "undone" "[I"] ++ wsX70)
def wsX7_undo : List Cond := .code yX7_undo cX7_undo 2 (some .int) :: ([.fieldLink RX7 91 "SecondTillModel" "undos" "I", .fieldLink RX7 7 "SecondTillModel" "row" "[I", .fieldLink RX7 19 "SecondTillModel" "undone" "[I", .fieldLink RX7 88 "SecondTillModel" "taped" "I"] ++ wsX70)
def wsX7_orders : List Cond := .code yX7_orders cX7_orders 5 none :: ([.fieldLink RX7 7 "SecondTillModel" "row" "[I", .fieldLink RX7 22 "SecondTillModel" "order" "[I", .methodLink RX7 54 yX7_walk, .instanceMethod yX7_walk, .selects RX7 yX7_walk yX7_walk, .initialized RX7, .code yX7_walk cX7_walk 2 (some .int)] ++ wsX70)
def wsX7_inRow : List Cond := .code yX7_inRow cX7_inRow 5 (some .int) :: ([.fieldLink RX7 7 "SecondTillModel" "row" "[I", .methodLink RX7 108 yX7_things, .instanceMethod yX7_things, .selects RX7 yX7_things yX7_things, .initialized RX7, .code yX7_things cX7_things 2 (some .int)] ++ wsX70)
def wsX7_there : List Cond := .code yX7_there cX7_there 3 (some .int) :: ([.fieldLink RX7 7 "SecondTillModel" "row" "[I", .methodLink RX7 54 yX7_walk, .instanceMethod yX7_walk, .selects RX7 yX7_walk yX7_walk, .initialized RX7, .code yX7_walk cX7_walk 2 (some .int), .methodLink RX7 108 yX7_things, .instanceMethod yX7_things, .selects RX7 yX7_things yX7_things, .code yX7_things cX7_things 2 (some .int)] ++ wsX70)
def wsX7_many : List Cond := .code yX7_many cX7_many 3 (some .int) :: ([])
def wsX7_rests : List Cond := .code yX7_rests cX7_rests 2 none :: ([.fieldLink RX7 7 "SecondTillModel" "row" "[I", .fieldLink RX7 25 "SecondTillModel" "dones" "[I", .fieldLink RX7 119 "SecondTillModel" "away" "I", .methodLink RX7 129 yX7_inRow, .instanceMethod yX7_inRow, .selects RX7 yX7_inRow yX7_inRow, .initialized RX7, .code yX7_inRow cX7_inRow 5 (some .int), .methodLink RX7 108 yX7_things, .instanceMethod yX7_things, .selects RX7 yX7_things yX7_things, .code yX7_things cX7_things 2 (some .int)] ++ wsX70)
def wsX7_opens_r1 : List Cond := [Cond.fieldLink RX7 119 "SecondTillModel" "away" "I", Cond.fieldLink RX7 7 "SecondTillModel" "row" "[I", Cond.fieldLink RX7 22 "SecondTillModel" "order" "[I", Cond.fieldLink RX7 25 "SecondTillModel" "dones" "[I", Cond.methodLink RX7 116 yX7_orders, Cond.instanceMethod yX7_orders, Cond.selects RX7 yX7_orders yX7_orders, Cond.initialized RX7, Cond.code yX7_orders cX7_orders 5 none, Cond.methodLink RX7 54 yX7_walk, Cond.instanceMethod yX7_walk, Cond.selects RX7 yX7_walk yX7_walk, Cond.code yX7_walk cX7_walk 2 (some .int), Cond.methodLink RX7 122 yX7_many, Cond.static yX7_many, Cond.code yX7_many cX7_many 3 (some .int), Cond.methodLink RX7 125 yX7_there, Cond.instanceMethod yX7_there, Cond.selects RX7 yX7_there yX7_there, Cond.code yX7_there cX7_there 3 (some .int), Cond.methodLink RX7 108 yX7_things, Cond.instanceMethod yX7_things, Cond.selects RX7 yX7_things yX7_things, Cond.code yX7_things cX7_things 2 (some .int)]
def wsX7_opens_r2 : List Cond := [Cond.methodLink RX7 129 yX7_inRow, Cond.instanceMethod yX7_inRow, Cond.selects RX7 yX7_inRow yX7_inRow, Cond.code yX7_inRow cX7_inRow 5 (some .int), Cond.methodLink RX7 132 yX7_kind, Cond.instanceMethod yX7_kind, Cond.selects RX7 yX7_kind yX7_kind, Cond.code yX7_kind cX7_kind 2 (some .int), Cond.methodLink RX7 135 yX7_rests, Cond.instanceMethod yX7_rests, Cond.selects RX7 yX7_rests yX7_rests, Cond.code yX7_rests cX7_rests 2 none]
def wsX7_opens : List Cond := .code yX7_opens cX7_opens 6 none :: ((wsX7_opens_r1 ++ wsX7_opens_r2) ++ wsX70)
def wsX7_sends_r1 : List Cond := [Cond.fieldLink RX7 119 "SecondTillModel" "away" "I", Cond.fieldLink RX7 7 "SecondTillModel" "row" "[I", Cond.fieldLink RX7 22 "SecondTillModel" "order" "[I", Cond.fieldLink RX7 25 "SecondTillModel" "dones" "[I", Cond.methodLink RX7 116 yX7_orders, Cond.instanceMethod yX7_orders, Cond.selects RX7 yX7_orders yX7_orders, Cond.initialized RX7, Cond.code yX7_orders cX7_orders 5 none, Cond.methodLink RX7 54 yX7_walk, Cond.instanceMethod yX7_walk, Cond.selects RX7 yX7_walk yX7_walk, Cond.code yX7_walk cX7_walk 2 (some .int), Cond.methodLink RX7 125 yX7_there, Cond.instanceMethod yX7_there, Cond.selects RX7 yX7_there yX7_there, Cond.code yX7_there cX7_there 3 (some .int), Cond.methodLink RX7 108 yX7_things, Cond.instanceMethod yX7_things, Cond.selects RX7 yX7_things yX7_things, Cond.code yX7_things cX7_things 2 (some .int), Cond.methodLink RX7 135 yX7_rests, Cond.instanceMethod yX7_rests, Cond.selects RX7 yX7_rests yX7_rests]
def wsX7_sends_r2 : List Cond := [Cond.code yX7_rests cX7_rests 2 none, Cond.methodLink RX7 129 yX7_inRow, Cond.instanceMethod yX7_inRow, Cond.selects RX7 yX7_inRow yX7_inRow, Cond.code yX7_inRow cX7_inRow 5 (some .int)]
def wsX7_sends : List Cond := .code yX7_sends cX7_sends 5 none :: ((wsX7_sends_r1 ++ wsX7_sends_r2) ++ wsX70)
def wsX7_sum : List Cond := .code yX7_sum cX7_sum 3 (some .int) :: ([.fieldLink RX7 7 "SecondTillModel" "row" "[I", .fieldLink RX7 25 "SecondTillModel" "dones" "[I"] ++ wsX70)
def wsX7_latest : List Cond := .code yX7_latest cX7_latest 3 (some .int) :: ([.fieldLink RX7 7 "SecondTillModel" "row" "[I", .fieldLink RX7 25 "SecondTillModel" "dones" "[I"] ++ wsX70)
def wsX7_overtakes : List Cond := .code yX7_overtakes cX7_overtakes 4 (some .int) :: ([.fieldLink RX7 7 "SecondTillModel" "row" "[I", .fieldLink RX7 25 "SecondTillModel" "dones" "[I"] ++ wsX70)
def wsX7_overtakings : List Cond := .code yX7_overtakings cX7_overtakings 3 (some .int) :: ([.fieldLink RX7 7 "SecondTillModel" "row" "[I", .methodLink RX7 138 yX7_overtakes, .instanceMethod yX7_overtakes, .selects RX7 yX7_overtakes yX7_overtakes, .initialized RX7, .code yX7_overtakes cX7_overtakes 4 (some .int), .fieldLink RX7 25 "SecondTillModel" "dones" "[I", .methodLink RX7 122 yX7_many, .static yX7_many, .code yX7_many cX7_many 3 (some .int)] ++ wsX70)
def wsX7_goes_r1 : List Cond := [Cond.constantLong RX7 141 (-1), Cond.constantLong RX7 143 (7), Cond.fieldLink RX7 119 "SecondTillModel" "away" "I", Cond.fieldLink RX7 7 "SecondTillModel" "row" "[I", Cond.fieldLink RX7 22 "SecondTillModel" "order" "[I", Cond.methodLink RX7 44 yX7_in, Cond.static yX7_in, Cond.initialized RX7, Cond.code yX7_in cX7_in 6 (some .boolean), Cond.methodLink RX7 145 yX7_opens, Cond.instanceMethod yX7_opens, Cond.selects RX7 yX7_opens yX7_opens, Cond.code yX7_opens cX7_opens 6 none, Cond.fieldLink RX7 25 "SecondTillModel" "dones" "[I", Cond.methodLink RX7 116 yX7_orders, Cond.instanceMethod yX7_orders, Cond.selects RX7 yX7_orders yX7_orders, Cond.code yX7_orders cX7_orders 5 none, Cond.methodLink RX7 54 yX7_walk, Cond.instanceMethod yX7_walk, Cond.selects RX7 yX7_walk yX7_walk, Cond.code yX7_walk cX7_walk 2 (some .int), Cond.methodLink RX7 122 yX7_many, Cond.static yX7_many]
def wsX7_goes_r2 : List Cond := [Cond.code yX7_many cX7_many 3 (some .int), Cond.methodLink RX7 125 yX7_there, Cond.instanceMethod yX7_there, Cond.selects RX7 yX7_there yX7_there, Cond.code yX7_there cX7_there 3 (some .int), Cond.methodLink RX7 108 yX7_things, Cond.instanceMethod yX7_things, Cond.selects RX7 yX7_things yX7_things, Cond.code yX7_things cX7_things 2 (some .int), Cond.methodLink RX7 129 yX7_inRow, Cond.instanceMethod yX7_inRow, Cond.selects RX7 yX7_inRow yX7_inRow, Cond.code yX7_inRow cX7_inRow 5 (some .int), Cond.methodLink RX7 132 yX7_kind, Cond.instanceMethod yX7_kind, Cond.selects RX7 yX7_kind yX7_kind, Cond.code yX7_kind cX7_kind 2 (some .int), Cond.methodLink RX7 135 yX7_rests, Cond.instanceMethod yX7_rests, Cond.selects RX7 yX7_rests yX7_rests, Cond.code yX7_rests cX7_rests 2 none]
def wsX7_goes : List Cond := .code yX7_goes cX7_goes 6 (some .int) :: ((wsX7_goes_r1 ++ wsX7_goes_r2) ++ wsX70)
def wsX7_isAsked : List Cond := .code yX7_isAsked cX7_isAsked 2 (some .boolean) :: ([.methodLink RX7 48 yX7_isPerson, .instanceMethod yX7_isPerson, .selects RX7 yX7_isPerson yX7_isPerson, .initialized RX7, .code yX7_isPerson cX7_isPerson 2 (some .boolean), .fieldLink RX7 7 "SecondTillModel" "row" "[I", .methodLink RX7 44 yX7_in, .static yX7_in, .code yX7_in cX7_in 6 (some .boolean)] ++ wsX70)
def wsX7_asked : List Cond := .code yX7_asked cX7_asked 2 (some .int) :: ([.fieldLink RX7 25 "SecondTillModel" "dones" "[I", .methodLink RX7 148 yX7_latest, .instanceMethod yX7_latest, .selects RX7 yX7_latest yX7_latest, .initialized RX7, .code yX7_latest cX7_latest 3 (some .int), .fieldLink RX7 7 "SecondTillModel" "row" "[I", .methodLink RX7 151 yX7_sum, .instanceMethod yX7_sum, .selects RX7 yX7_sum yX7_sum, .code yX7_sum cX7_sum 3 (some .int)] ++ wsX70)
def wsX7_done_r1 : List Cond := [Cond.methodLink RX7 154 yX7_isAsked, Cond.instanceMethod yX7_isAsked, Cond.selects RX7 yX7_isAsked yX7_isAsked, Cond.initialized RX7, Cond.code yX7_isAsked cX7_isAsked 2 (some .boolean), Cond.methodLink RX7 48 yX7_isPerson, Cond.instanceMethod yX7_isPerson, Cond.selects RX7 yX7_isPerson yX7_isPerson, Cond.code yX7_isPerson cX7_isPerson 2 (some .boolean), Cond.fieldLink RX7 7 "SecondTillModel" "row" "[I", Cond.methodLink RX7 44 yX7_in, Cond.static yX7_in, Cond.code yX7_in cX7_in 6 (some .boolean), Cond.methodLink RX7 145 yX7_opens, Cond.instanceMethod yX7_opens, Cond.selects RX7 yX7_opens yX7_opens, Cond.code yX7_opens cX7_opens 6 none, Cond.fieldLink RX7 119 "SecondTillModel" "away" "I", Cond.fieldLink RX7 22 "SecondTillModel" "order" "[I", Cond.fieldLink RX7 25 "SecondTillModel" "dones" "[I", Cond.methodLink RX7 116 yX7_orders, Cond.instanceMethod yX7_orders, Cond.selects RX7 yX7_orders yX7_orders, Cond.code yX7_orders cX7_orders 5 none]
def wsX7_done_r2 : List Cond := [Cond.methodLink RX7 54 yX7_walk, Cond.instanceMethod yX7_walk, Cond.selects RX7 yX7_walk yX7_walk, Cond.code yX7_walk cX7_walk 2 (some .int), Cond.methodLink RX7 122 yX7_many, Cond.static yX7_many, Cond.code yX7_many cX7_many 3 (some .int), Cond.methodLink RX7 125 yX7_there, Cond.instanceMethod yX7_there, Cond.selects RX7 yX7_there yX7_there, Cond.code yX7_there cX7_there 3 (some .int), Cond.methodLink RX7 108 yX7_things, Cond.instanceMethod yX7_things, Cond.selects RX7 yX7_things yX7_things, Cond.code yX7_things cX7_things 2 (some .int), Cond.methodLink RX7 129 yX7_inRow, Cond.instanceMethod yX7_inRow, Cond.selects RX7 yX7_inRow yX7_inRow, Cond.code yX7_inRow cX7_inRow 5 (some .int), Cond.methodLink RX7 132 yX7_kind, Cond.instanceMethod yX7_kind, Cond.selects RX7 yX7_kind yX7_kind, Cond.code yX7_kind cX7_kind 2 (some .int), Cond.methodLink RX7 135 yX7_rests]
def wsX7_done_r3 : List Cond := [Cond.instanceMethod yX7_rests, Cond.selects RX7 yX7_rests yX7_rests, Cond.code yX7_rests cX7_rests 2 none, Cond.methodLink RX7 157 yX7_sends, Cond.instanceMethod yX7_sends, Cond.selects RX7 yX7_sends yX7_sends, Cond.code yX7_sends cX7_sends 5 none, Cond.methodLink RX7 160 yX7_asked, Cond.instanceMethod yX7_asked, Cond.selects RX7 yX7_asked yX7_asked, Cond.code yX7_asked cX7_asked 2 (some .int), Cond.methodLink RX7 148 yX7_latest, Cond.instanceMethod yX7_latest, Cond.selects RX7 yX7_latest yX7_latest, Cond.code yX7_latest cX7_latest 3 (some .int), Cond.methodLink RX7 151 yX7_sum, Cond.instanceMethod yX7_sum, Cond.selects RX7 yX7_sum yX7_sum, Cond.code yX7_sum cX7_sum 3 (some .int)]
def wsX7_done : List Cond := .code yX7_done cX7_done 3 (some .int) :: ((wsX7_done_r1 ++ (wsX7_done_r2 ++ wsX7_done_r3)) ++ wsX70)
def wsX7_overtaken_r1 : List Cond := [Cond.methodLink RX7 48 yX7_isPerson, Cond.instanceMethod yX7_isPerson, Cond.selects RX7 yX7_isPerson yX7_isPerson, Cond.initialized RX7, Cond.code yX7_isPerson cX7_isPerson 2 (some .boolean), Cond.fieldLink RX7 7 "SecondTillModel" "row" "[I", Cond.methodLink RX7 44 yX7_in, Cond.static yX7_in, Cond.code yX7_in cX7_in 6 (some .boolean), Cond.methodLink RX7 145 yX7_opens, Cond.instanceMethod yX7_opens, Cond.selects RX7 yX7_opens yX7_opens, Cond.code yX7_opens cX7_opens 6 none, Cond.fieldLink RX7 119 "SecondTillModel" "away" "I", Cond.fieldLink RX7 22 "SecondTillModel" "order" "[I", Cond.fieldLink RX7 25 "SecondTillModel" "dones" "[I", Cond.methodLink RX7 116 yX7_orders, Cond.instanceMethod yX7_orders, Cond.selects RX7 yX7_orders yX7_orders, Cond.code yX7_orders cX7_orders 5 none, Cond.methodLink RX7 54 yX7_walk, Cond.instanceMethod yX7_walk, Cond.selects RX7 yX7_walk yX7_walk, Cond.code yX7_walk cX7_walk 2 (some .int)]
def wsX7_overtaken_r2 : List Cond := [Cond.methodLink RX7 122 yX7_many, Cond.static yX7_many, Cond.code yX7_many cX7_many 3 (some .int), Cond.methodLink RX7 125 yX7_there, Cond.instanceMethod yX7_there, Cond.selects RX7 yX7_there yX7_there, Cond.code yX7_there cX7_there 3 (some .int), Cond.methodLink RX7 108 yX7_things, Cond.instanceMethod yX7_things, Cond.selects RX7 yX7_things yX7_things, Cond.code yX7_things cX7_things 2 (some .int), Cond.methodLink RX7 129 yX7_inRow, Cond.instanceMethod yX7_inRow, Cond.selects RX7 yX7_inRow yX7_inRow, Cond.code yX7_inRow cX7_inRow 5 (some .int), Cond.methodLink RX7 132 yX7_kind, Cond.instanceMethod yX7_kind, Cond.selects RX7 yX7_kind yX7_kind, Cond.code yX7_kind cX7_kind 2 (some .int), Cond.methodLink RX7 135 yX7_rests, Cond.instanceMethod yX7_rests, Cond.selects RX7 yX7_rests yX7_rests, Cond.code yX7_rests cX7_rests 2 none, Cond.methodLink RX7 163 yX7_overtakings]
def wsX7_overtaken_r3 : List Cond := [Cond.instanceMethod yX7_overtakings, Cond.selects RX7 yX7_overtakings yX7_overtakings, Cond.code yX7_overtakings cX7_overtakings 3 (some .int), Cond.methodLink RX7 138 yX7_overtakes, Cond.instanceMethod yX7_overtakes, Cond.selects RX7 yX7_overtakes yX7_overtakes, Cond.code yX7_overtakes cX7_overtakes 4 (some .int)]
def wsX7_overtaken : List Cond := .code yX7_overtaken cX7_overtaken 2 (some .int) :: ((wsX7_overtaken_r1 ++ (wsX7_overtaken_r2 ++ wsX7_overtaken_r3)) ++ wsX70)
def wsX7_leastOf_r1 : List Cond := [Cond.fieldLink RX7 7 "SecondTillModel" "row" "[I", Cond.fieldLink RX7 166 "SecondTillModel" "bestSet" "I", Cond.methodLink RX7 157 yX7_sends, Cond.instanceMethod yX7_sends, Cond.selects RX7 yX7_sends yX7_sends, Cond.initialized RX7, Cond.code yX7_sends cX7_sends 5 none, Cond.fieldLink RX7 119 "SecondTillModel" "away" "I", Cond.fieldLink RX7 22 "SecondTillModel" "order" "[I", Cond.fieldLink RX7 25 "SecondTillModel" "dones" "[I", Cond.methodLink RX7 116 yX7_orders, Cond.instanceMethod yX7_orders, Cond.selects RX7 yX7_orders yX7_orders, Cond.code yX7_orders cX7_orders 5 none, Cond.methodLink RX7 54 yX7_walk, Cond.instanceMethod yX7_walk, Cond.selects RX7 yX7_walk yX7_walk, Cond.code yX7_walk cX7_walk 2 (some .int), Cond.methodLink RX7 125 yX7_there, Cond.instanceMethod yX7_there, Cond.selects RX7 yX7_there yX7_there, Cond.code yX7_there cX7_there 3 (some .int), Cond.methodLink RX7 108 yX7_things, Cond.instanceMethod yX7_things]
def wsX7_leastOf_r2 : List Cond := [Cond.selects RX7 yX7_things yX7_things, Cond.code yX7_things cX7_things 2 (some .int), Cond.methodLink RX7 135 yX7_rests, Cond.instanceMethod yX7_rests, Cond.selects RX7 yX7_rests yX7_rests, Cond.code yX7_rests cX7_rests 2 none, Cond.methodLink RX7 129 yX7_inRow, Cond.instanceMethod yX7_inRow, Cond.selects RX7 yX7_inRow yX7_inRow, Cond.code yX7_inRow cX7_inRow 5 (some .int), Cond.methodLink RX7 148 yX7_latest, Cond.instanceMethod yX7_latest, Cond.selects RX7 yX7_latest yX7_latest, Cond.code yX7_latest cX7_latest 3 (some .int), Cond.methodLink RX7 151 yX7_sum, Cond.instanceMethod yX7_sum, Cond.selects RX7 yX7_sum yX7_sum, Cond.code yX7_sum cX7_sum 3 (some .int), Cond.methodLink RX7 163 yX7_overtakings, Cond.instanceMethod yX7_overtakings, Cond.selects RX7 yX7_overtakings yX7_overtakings, Cond.code yX7_overtakings cX7_overtakings 3 (some .int), Cond.methodLink RX7 138 yX7_overtakes, Cond.instanceMethod yX7_overtakes]
def wsX7_leastOf_r3 : List Cond := [Cond.selects RX7 yX7_overtakes yX7_overtakes, Cond.code yX7_overtakes cX7_overtakes 4 (some .int), Cond.methodLink RX7 122 yX7_many, Cond.static yX7_many, Cond.code yX7_many cX7_many 3 (some .int)]
def wsX7_leastOf : List Cond := .code yX7_leastOf cX7_leastOf 6 (some .int) :: ((wsX7_leastOf_r1 ++ (wsX7_leastOf_r2 ++ wsX7_leastOf_r3)) ++ wsX70)
def wsX7_best_r1 : List Cond := [Cond.fieldLink RX7 166 "SecondTillModel" "bestSet" "I", Cond.methodLink RX7 44 yX7_in, Cond.static yX7_in, Cond.initialized RX7, Cond.code yX7_in cX7_in 6 (some .boolean), Cond.methodLink RX7 169 yX7_leastOf, Cond.instanceMethod yX7_leastOf, Cond.selects RX7 yX7_leastOf yX7_leastOf, Cond.code yX7_leastOf cX7_leastOf 6 (some .int), Cond.fieldLink RX7 7 "SecondTillModel" "row" "[I", Cond.methodLink RX7 157 yX7_sends, Cond.instanceMethod yX7_sends, Cond.selects RX7 yX7_sends yX7_sends, Cond.code yX7_sends cX7_sends 5 none, Cond.fieldLink RX7 119 "SecondTillModel" "away" "I", Cond.fieldLink RX7 22 "SecondTillModel" "order" "[I", Cond.fieldLink RX7 25 "SecondTillModel" "dones" "[I", Cond.methodLink RX7 116 yX7_orders, Cond.instanceMethod yX7_orders, Cond.selects RX7 yX7_orders yX7_orders, Cond.code yX7_orders cX7_orders 5 none, Cond.methodLink RX7 54 yX7_walk, Cond.instanceMethod yX7_walk, Cond.selects RX7 yX7_walk yX7_walk]
def wsX7_best_r2 : List Cond := [Cond.code yX7_walk cX7_walk 2 (some .int), Cond.methodLink RX7 125 yX7_there, Cond.instanceMethod yX7_there, Cond.selects RX7 yX7_there yX7_there, Cond.code yX7_there cX7_there 3 (some .int), Cond.methodLink RX7 108 yX7_things, Cond.instanceMethod yX7_things, Cond.selects RX7 yX7_things yX7_things, Cond.code yX7_things cX7_things 2 (some .int), Cond.methodLink RX7 135 yX7_rests, Cond.instanceMethod yX7_rests, Cond.selects RX7 yX7_rests yX7_rests, Cond.code yX7_rests cX7_rests 2 none, Cond.methodLink RX7 129 yX7_inRow, Cond.instanceMethod yX7_inRow, Cond.selects RX7 yX7_inRow yX7_inRow, Cond.code yX7_inRow cX7_inRow 5 (some .int), Cond.methodLink RX7 148 yX7_latest, Cond.instanceMethod yX7_latest, Cond.selects RX7 yX7_latest yX7_latest, Cond.code yX7_latest cX7_latest 3 (some .int), Cond.methodLink RX7 151 yX7_sum, Cond.instanceMethod yX7_sum, Cond.selects RX7 yX7_sum yX7_sum]
def wsX7_best_r3 : List Cond := [Cond.code yX7_sum cX7_sum 3 (some .int), Cond.methodLink RX7 163 yX7_overtakings, Cond.instanceMethod yX7_overtakings, Cond.selects RX7 yX7_overtakings yX7_overtakings, Cond.code yX7_overtakings cX7_overtakings 3 (some .int), Cond.methodLink RX7 138 yX7_overtakes, Cond.instanceMethod yX7_overtakes, Cond.selects RX7 yX7_overtakes yX7_overtakes, Cond.code yX7_overtakes cX7_overtakes 4 (some .int), Cond.methodLink RX7 122 yX7_many, Cond.static yX7_many, Cond.code yX7_many cX7_many 3 (some .int)]
def wsX7_best : List Cond := .code yX7_best cX7_best 4 (some .int) :: ((wsX7_best_r1 ++ (wsX7_best_r2 ++ wsX7_best_r3)) ++ wsX70)
def wsX7_fair_r1 : List Cond := [Cond.fieldLink RX7 166 "SecondTillModel" "bestSet" "I", Cond.methodLink RX7 44 yX7_in, Cond.static yX7_in, Cond.initialized RX7, Cond.code yX7_in cX7_in 6 (some .boolean), Cond.methodLink RX7 169 yX7_leastOf, Cond.instanceMethod yX7_leastOf, Cond.selects RX7 yX7_leastOf yX7_leastOf, Cond.code yX7_leastOf cX7_leastOf 6 (some .int), Cond.fieldLink RX7 7 "SecondTillModel" "row" "[I", Cond.methodLink RX7 157 yX7_sends, Cond.instanceMethod yX7_sends, Cond.selects RX7 yX7_sends yX7_sends, Cond.code yX7_sends cX7_sends 5 none, Cond.fieldLink RX7 119 "SecondTillModel" "away" "I", Cond.fieldLink RX7 22 "SecondTillModel" "order" "[I", Cond.fieldLink RX7 25 "SecondTillModel" "dones" "[I", Cond.methodLink RX7 116 yX7_orders, Cond.instanceMethod yX7_orders, Cond.selects RX7 yX7_orders yX7_orders, Cond.code yX7_orders cX7_orders 5 none, Cond.methodLink RX7 54 yX7_walk, Cond.instanceMethod yX7_walk, Cond.selects RX7 yX7_walk yX7_walk]
def wsX7_fair_r2 : List Cond := [Cond.code yX7_walk cX7_walk 2 (some .int), Cond.methodLink RX7 125 yX7_there, Cond.instanceMethod yX7_there, Cond.selects RX7 yX7_there yX7_there, Cond.code yX7_there cX7_there 3 (some .int), Cond.methodLink RX7 108 yX7_things, Cond.instanceMethod yX7_things, Cond.selects RX7 yX7_things yX7_things, Cond.code yX7_things cX7_things 2 (some .int), Cond.methodLink RX7 135 yX7_rests, Cond.instanceMethod yX7_rests, Cond.selects RX7 yX7_rests yX7_rests, Cond.code yX7_rests cX7_rests 2 none, Cond.methodLink RX7 129 yX7_inRow, Cond.instanceMethod yX7_inRow, Cond.selects RX7 yX7_inRow yX7_inRow, Cond.code yX7_inRow cX7_inRow 5 (some .int), Cond.methodLink RX7 148 yX7_latest, Cond.instanceMethod yX7_latest, Cond.selects RX7 yX7_latest yX7_latest, Cond.code yX7_latest cX7_latest 3 (some .int), Cond.methodLink RX7 151 yX7_sum, Cond.instanceMethod yX7_sum, Cond.selects RX7 yX7_sum yX7_sum]
def wsX7_fair_r3 : List Cond := [Cond.code yX7_sum cX7_sum 3 (some .int), Cond.methodLink RX7 163 yX7_overtakings, Cond.instanceMethod yX7_overtakings, Cond.selects RX7 yX7_overtakings yX7_overtakings, Cond.code yX7_overtakings cX7_overtakings 3 (some .int), Cond.methodLink RX7 138 yX7_overtakes, Cond.instanceMethod yX7_overtakes, Cond.selects RX7 yX7_overtakes yX7_overtakes, Cond.code yX7_overtakes cX7_overtakes 4 (some .int), Cond.methodLink RX7 122 yX7_many, Cond.static yX7_many, Cond.code yX7_many cX7_many 3 (some .int)]
def wsX7_fair : List Cond := .code yX7_fair cX7_fair 3 (some .int) :: ((wsX7_fair_r1 ++ (wsX7_fair_r2 ++ wsX7_fair_r3)) ++ wsX70)
def wsX7_oneRow_r1 : List Cond := [Cond.fieldLink RX7 7 "SecondTillModel" "row" "[I", Cond.fieldLink RX7 25 "SecondTillModel" "dones" "[I", Cond.methodLink RX7 154 yX7_isAsked, Cond.instanceMethod yX7_isAsked, Cond.selects RX7 yX7_isAsked yX7_isAsked, Cond.initialized RX7, Cond.code yX7_isAsked cX7_isAsked 2 (some .boolean), Cond.methodLink RX7 48 yX7_isPerson, Cond.instanceMethod yX7_isPerson, Cond.selects RX7 yX7_isPerson yX7_isPerson, Cond.code yX7_isPerson cX7_isPerson 2 (some .boolean), Cond.methodLink RX7 44 yX7_in, Cond.static yX7_in, Cond.code yX7_in cX7_in 6 (some .boolean), Cond.methodLink RX7 108 yX7_things, Cond.instanceMethod yX7_things, Cond.selects RX7 yX7_things yX7_things, Cond.code yX7_things cX7_things 2 (some .int), Cond.methodLink RX7 160 yX7_asked, Cond.instanceMethod yX7_asked, Cond.selects RX7 yX7_asked yX7_asked, Cond.code yX7_asked cX7_asked 2 (some .int), Cond.methodLink RX7 148 yX7_latest, Cond.instanceMethod yX7_latest]
def wsX7_oneRow_r2 : List Cond := [Cond.selects RX7 yX7_latest yX7_latest, Cond.code yX7_latest cX7_latest 3 (some .int), Cond.methodLink RX7 151 yX7_sum, Cond.instanceMethod yX7_sum, Cond.selects RX7 yX7_sum yX7_sum, Cond.code yX7_sum cX7_sum 3 (some .int)]
def wsX7_oneRow : List Cond := .code yX7_oneRow cX7_oneRow 6 (some .int) :: ((wsX7_oneRow_r1 ++ wsX7_oneRow_r2) ++ wsX70)
def wsX7_called_r1 : List Cond := [Cond.constantLong RX7 173 (2), Cond.fieldLink RX7 7 "SecondTillModel" "row" "[I", Cond.methodLink RX7 44 yX7_in, Cond.static yX7_in, Cond.initialized RX7, Cond.code yX7_in cX7_in 6 (some .boolean), Cond.methodLink RX7 157 yX7_sends, Cond.instanceMethod yX7_sends, Cond.selects RX7 yX7_sends yX7_sends, Cond.code yX7_sends cX7_sends 5 none, Cond.fieldLink RX7 119 "SecondTillModel" "away" "I", Cond.fieldLink RX7 22 "SecondTillModel" "order" "[I", Cond.fieldLink RX7 25 "SecondTillModel" "dones" "[I", Cond.methodLink RX7 116 yX7_orders, Cond.instanceMethod yX7_orders, Cond.selects RX7 yX7_orders yX7_orders, Cond.code yX7_orders cX7_orders 5 none, Cond.methodLink RX7 54 yX7_walk, Cond.instanceMethod yX7_walk, Cond.selects RX7 yX7_walk yX7_walk, Cond.code yX7_walk cX7_walk 2 (some .int), Cond.methodLink RX7 125 yX7_there, Cond.instanceMethod yX7_there, Cond.selects RX7 yX7_there yX7_there]
def wsX7_called_r2 : List Cond := [Cond.code yX7_there cX7_there 3 (some .int), Cond.methodLink RX7 108 yX7_things, Cond.instanceMethod yX7_things, Cond.selects RX7 yX7_things yX7_things, Cond.code yX7_things cX7_things 2 (some .int), Cond.methodLink RX7 135 yX7_rests, Cond.instanceMethod yX7_rests, Cond.selects RX7 yX7_rests yX7_rests, Cond.code yX7_rests cX7_rests 2 none, Cond.methodLink RX7 129 yX7_inRow, Cond.instanceMethod yX7_inRow, Cond.selects RX7 yX7_inRow yX7_inRow, Cond.code yX7_inRow cX7_inRow 5 (some .int), Cond.methodLink RX7 148 yX7_latest, Cond.instanceMethod yX7_latest, Cond.selects RX7 yX7_latest yX7_latest, Cond.code yX7_latest cX7_latest 3 (some .int), Cond.methodLink RX7 151 yX7_sum, Cond.instanceMethod yX7_sum, Cond.selects RX7 yX7_sum yX7_sum, Cond.code yX7_sum cX7_sum 3 (some .int)]
def wsX7_called : List Cond := .code yX7_called cX7_called 7 (some .int) :: ((wsX7_called_r1 ++ wsX7_called_r2) ++ wsX70)
def wsX7_asides : List Cond := .code yX7_asides cX7_asides 2 none :: ([.fieldLink RX7 28 "SecondTillModel" "aside" "[I", .fieldLink RX7 7 "SecondTillModel" "row" "[I"] ++ wsX70)
def wsX7_backs : List Cond := .code yX7_backs cX7_backs 2 none :: ([.fieldLink RX7 7 "SecondTillModel" "row" "[I", .fieldLink RX7 28 "SecondTillModel" "aside" "[I"] ++ wsX70)
def wsX7_open_r1 : List Cond := [Cond.constantLong RX7 97 (20), Cond.fieldLink RX7 28 "SecondTillModel" "aside" "[I", Cond.fieldLink RX7 7 "SecondTillModel" "row" "[I", Cond.methodLink RX7 44 yX7_in, Cond.static yX7_in, Cond.initialized RX7, Cond.code yX7_in cX7_in 6 (some .boolean), Cond.methodLink RX7 175 yX7_asides, Cond.instanceMethod yX7_asides, Cond.selects RX7 yX7_asides yX7_asides, Cond.code yX7_asides cX7_asides 2 none, Cond.methodLink RX7 113 yX7_goesBy, Cond.instanceMethod yX7_goesBy, Cond.selects RX7 yX7_goesBy yX7_goesBy, Cond.code yX7_goesBy cX7_goesBy 4 (some .int), Cond.methodLink RX7 108 yX7_things, Cond.instanceMethod yX7_things, Cond.selects RX7 yX7_things yX7_things, Cond.code yX7_things cX7_things 2 (some .int), Cond.methodLink RX7 104 yX7_goesAway, Cond.instanceMethod yX7_goesAway, Cond.selects RX7 yX7_goesAway yX7_goesAway, Cond.code yX7_goesAway cX7_goesAway 3 none, Cond.methodLink RX7 169 yX7_leastOf]
def wsX7_open_r2 : List Cond := [Cond.instanceMethod yX7_leastOf, Cond.selects RX7 yX7_leastOf yX7_leastOf, Cond.code yX7_leastOf cX7_leastOf 6 (some .int), Cond.fieldLink RX7 166 "SecondTillModel" "bestSet" "I", Cond.methodLink RX7 157 yX7_sends, Cond.instanceMethod yX7_sends, Cond.selects RX7 yX7_sends yX7_sends, Cond.code yX7_sends cX7_sends 5 none, Cond.fieldLink RX7 119 "SecondTillModel" "away" "I", Cond.fieldLink RX7 22 "SecondTillModel" "order" "[I", Cond.fieldLink RX7 25 "SecondTillModel" "dones" "[I", Cond.methodLink RX7 116 yX7_orders, Cond.instanceMethod yX7_orders, Cond.selects RX7 yX7_orders yX7_orders, Cond.code yX7_orders cX7_orders 5 none, Cond.methodLink RX7 54 yX7_walk, Cond.instanceMethod yX7_walk, Cond.selects RX7 yX7_walk yX7_walk, Cond.code yX7_walk cX7_walk 2 (some .int), Cond.methodLink RX7 125 yX7_there, Cond.instanceMethod yX7_there, Cond.selects RX7 yX7_there yX7_there, Cond.code yX7_there cX7_there 3 (some .int), Cond.methodLink RX7 135 yX7_rests]
def wsX7_open_r3 : List Cond := [Cond.instanceMethod yX7_rests, Cond.selects RX7 yX7_rests yX7_rests, Cond.code yX7_rests cX7_rests 2 none, Cond.methodLink RX7 129 yX7_inRow, Cond.instanceMethod yX7_inRow, Cond.selects RX7 yX7_inRow yX7_inRow, Cond.code yX7_inRow cX7_inRow 5 (some .int), Cond.methodLink RX7 148 yX7_latest, Cond.instanceMethod yX7_latest, Cond.selects RX7 yX7_latest yX7_latest, Cond.code yX7_latest cX7_latest 3 (some .int), Cond.methodLink RX7 151 yX7_sum, Cond.instanceMethod yX7_sum, Cond.selects RX7 yX7_sum yX7_sum, Cond.code yX7_sum cX7_sum 3 (some .int), Cond.methodLink RX7 163 yX7_overtakings, Cond.instanceMethod yX7_overtakings, Cond.selects RX7 yX7_overtakings yX7_overtakings, Cond.code yX7_overtakings cX7_overtakings 3 (some .int), Cond.methodLink RX7 138 yX7_overtakes, Cond.instanceMethod yX7_overtakes, Cond.selects RX7 yX7_overtakes yX7_overtakes, Cond.code yX7_overtakes cX7_overtakes 4 (some .int), Cond.methodLink RX7 122 yX7_many]
def wsX7_open_r4 : List Cond := [Cond.static yX7_many, Cond.code yX7_many cX7_many 3 (some .int), Cond.methodLink RX7 178 yX7_backs, Cond.instanceMethod yX7_backs, Cond.selects RX7 yX7_backs yX7_backs, Cond.code yX7_backs cX7_backs 2 none]
def wsX7_open : List Cond := .code yX7_open cX7_open 10 (some .int) :: ((wsX7_open_r1 ++ (wsX7_open_r2 ++ (wsX7_open_r3 ++ wsX7_open_r4))) ++ wsX70)
def wsX7_tape : List Cond := .code yX7_tape cX7_tape 3 (some .int) :: ([.fieldLink RX7 88 "SecondTillModel" "taped" "I", .fieldLink RX7 31 "SecondTillModel" "tapedWho" "[I", .fieldLink RX7 34 "SecondTillModel" "tapedTill" "[I", .methodLink RX7 48 yX7_isPerson, .instanceMethod yX7_isPerson, .selects RX7 yX7_isPerson yX7_isPerson, .initialized RX7, .code yX7_isPerson cX7_isPerson 2 (some .boolean), .fieldLink RX7 7 "SecondTillModel" "row" "[I", .methodLink RX7 44 yX7_in, .static yX7_in, .code yX7_in cX7_in 6 (some .boolean)] ++ wsX70)
def wsX7_forget : List Cond := .code yX7_forget cX7_forget 2 (some .int) :: ([.fieldLink RX7 88 "SecondTillModel" "taped" "I"] ++ wsX70)
def wsX7_kinds_r1 : List Cond := [Cond.fieldLink RX7 7 "SecondTillModel" "row" "[I", Cond.fieldLink RX7 88 "SecondTillModel" "taped" "I", Cond.fieldLink RX7 119 "SecondTillModel" "away" "I", Cond.fieldLink RX7 31 "SecondTillModel" "tapedWho" "[I", Cond.fieldLink RX7 34 "SecondTillModel" "tapedTill" "[I", Cond.methodLink RX7 48 yX7_isPerson, Cond.instanceMethod yX7_isPerson, Cond.selects RX7 yX7_isPerson yX7_isPerson, Cond.initialized RX7, Cond.code yX7_isPerson cX7_isPerson 2 (some .boolean), Cond.methodLink RX7 44 yX7_in, Cond.static yX7_in, Cond.code yX7_in cX7_in 6 (some .boolean), Cond.methodLink RX7 132 yX7_kind, Cond.instanceMethod yX7_kind, Cond.selects RX7 yX7_kind yX7_kind, Cond.code yX7_kind cX7_kind 2 (some .int), Cond.methodLink RX7 145 yX7_opens, Cond.instanceMethod yX7_opens, Cond.selects RX7 yX7_opens yX7_opens, Cond.code yX7_opens cX7_opens 6 none, Cond.fieldLink RX7 22 "SecondTillModel" "order" "[I", Cond.fieldLink RX7 25 "SecondTillModel" "dones" "[I", Cond.methodLink RX7 116 yX7_orders]
def wsX7_kinds_r2 : List Cond := [Cond.instanceMethod yX7_orders, Cond.selects RX7 yX7_orders yX7_orders, Cond.code yX7_orders cX7_orders 5 none, Cond.methodLink RX7 54 yX7_walk, Cond.instanceMethod yX7_walk, Cond.selects RX7 yX7_walk yX7_walk, Cond.code yX7_walk cX7_walk 2 (some .int), Cond.methodLink RX7 122 yX7_many, Cond.static yX7_many, Cond.code yX7_many cX7_many 3 (some .int), Cond.methodLink RX7 125 yX7_there, Cond.instanceMethod yX7_there, Cond.selects RX7 yX7_there yX7_there, Cond.code yX7_there cX7_there 3 (some .int), Cond.methodLink RX7 108 yX7_things, Cond.instanceMethod yX7_things, Cond.selects RX7 yX7_things yX7_things, Cond.code yX7_things cX7_things 2 (some .int), Cond.methodLink RX7 129 yX7_inRow, Cond.instanceMethod yX7_inRow, Cond.selects RX7 yX7_inRow yX7_inRow, Cond.code yX7_inRow cX7_inRow 5 (some .int), Cond.methodLink RX7 135 yX7_rests, Cond.instanceMethod yX7_rests]
def wsX7_kinds_r3 : List Cond := [Cond.selects RX7 yX7_rests yX7_rests, Cond.code yX7_rests cX7_rests 2 none]
def wsX7_kinds : List Cond := .code yX7_kinds cX7_kinds 7 (some .int) :: ((wsX7_kinds_r1 ++ (wsX7_kinds_r2 ++ wsX7_kinds_r3)) ++ wsX70)
def wsX7_beaten : List Cond := .code yX7_beaten cX7_beaten 9 (some .int) :: ([.constantLong RX7 181 (10), .fieldLink RX7 22 "SecondTillModel" "order" "[I", .methodLink RX7 48 yX7_isPerson, .instanceMethod yX7_isPerson, .selects RX7 yX7_isPerson yX7_isPerson, .initialized RX7, .code yX7_isPerson cX7_isPerson 2 (some .boolean), .fieldLink RX7 7 "SecondTillModel" "row" "[I", .methodLink RX7 44 yX7_in, .static yX7_in, .code yX7_in cX7_in 6 (some .boolean), .methodLink RX7 116 yX7_orders, .instanceMethod yX7_orders, .selects RX7 yX7_orders yX7_orders, .code yX7_orders cX7_orders 5 none, .methodLink RX7 54 yX7_walk, .instanceMethod yX7_walk, .selects RX7 yX7_walk yX7_walk, .code yX7_walk cX7_walk 2 (some .int)] ++ wsX70)
def wsX7_learner_r1 : List Cond := [Cond.fieldLink RX7 7 "SecondTillModel" "row" "[I", Cond.methodLink RX7 157 yX7_sends, Cond.instanceMethod yX7_sends, Cond.selects RX7 yX7_sends yX7_sends, Cond.initialized RX7, Cond.code yX7_sends cX7_sends 5 none, Cond.fieldLink RX7 119 "SecondTillModel" "away" "I", Cond.fieldLink RX7 22 "SecondTillModel" "order" "[I", Cond.fieldLink RX7 25 "SecondTillModel" "dones" "[I", Cond.methodLink RX7 116 yX7_orders, Cond.instanceMethod yX7_orders, Cond.selects RX7 yX7_orders yX7_orders, Cond.code yX7_orders cX7_orders 5 none, Cond.methodLink RX7 54 yX7_walk, Cond.instanceMethod yX7_walk, Cond.selects RX7 yX7_walk yX7_walk, Cond.code yX7_walk cX7_walk 2 (some .int), Cond.methodLink RX7 125 yX7_there, Cond.instanceMethod yX7_there, Cond.selects RX7 yX7_there yX7_there, Cond.code yX7_there cX7_there 3 (some .int), Cond.methodLink RX7 108 yX7_things, Cond.instanceMethod yX7_things, Cond.selects RX7 yX7_things yX7_things]
def wsX7_learner_r2 : List Cond := [Cond.code yX7_things cX7_things 2 (some .int), Cond.methodLink RX7 135 yX7_rests, Cond.instanceMethod yX7_rests, Cond.selects RX7 yX7_rests yX7_rests, Cond.code yX7_rests cX7_rests 2 none, Cond.methodLink RX7 129 yX7_inRow, Cond.instanceMethod yX7_inRow, Cond.selects RX7 yX7_inRow yX7_inRow, Cond.code yX7_inRow cX7_inRow 5 (some .int), Cond.methodLink RX7 151 yX7_sum, Cond.instanceMethod yX7_sum, Cond.selects RX7 yX7_sum yX7_sum, Cond.code yX7_sum cX7_sum 3 (some .int), Cond.methodLink RX7 169 yX7_leastOf, Cond.instanceMethod yX7_leastOf, Cond.selects RX7 yX7_leastOf yX7_leastOf, Cond.code yX7_leastOf cX7_leastOf 6 (some .int), Cond.fieldLink RX7 166 "SecondTillModel" "bestSet" "I", Cond.methodLink RX7 148 yX7_latest, Cond.instanceMethod yX7_latest, Cond.selects RX7 yX7_latest yX7_latest, Cond.code yX7_latest cX7_latest 3 (some .int), Cond.methodLink RX7 163 yX7_overtakings, Cond.instanceMethod yX7_overtakings]
def wsX7_learner_r3 : List Cond := [Cond.selects RX7 yX7_overtakings yX7_overtakings, Cond.code yX7_overtakings cX7_overtakings 3 (some .int), Cond.methodLink RX7 138 yX7_overtakes, Cond.instanceMethod yX7_overtakes, Cond.selects RX7 yX7_overtakes yX7_overtakes, Cond.code yX7_overtakes cX7_overtakes 4 (some .int), Cond.methodLink RX7 122 yX7_many, Cond.static yX7_many, Cond.code yX7_many cX7_many 3 (some .int)]
def wsX7_learner : List Cond := .code yX7_learner cX7_learner 5 (some .int) :: ((wsX7_learner_r1 ++ (wsX7_learner_r2 ++ wsX7_learner_r3)) ++ wsX70)
def wsX7_day_r1 : List Cond := [Cond.constantLong RX7 183 (9999), Cond.constantLong RX7 185 (30), Cond.constantLong RX7 187 (7919), Cond.constantLong RX7 189 (6151), Cond.constantLong RX7 191 (65521), Cond.fieldLink RX7 7 "SecondTillModel" "row" "[I", Cond.methodLink RX7 44 yX7_in, Cond.static yX7_in, Cond.initialized RX7, Cond.code yX7_in cX7_in 6 (some .boolean), Cond.methodLink RX7 175 yX7_asides, Cond.instanceMethod yX7_asides, Cond.selects RX7 yX7_asides yX7_asides, Cond.code yX7_asides cX7_asides 2 none, Cond.fieldLink RX7 28 "SecondTillModel" "aside" "[I", Cond.methodLink RX7 40 yX7_stands, Cond.instanceMethod yX7_stands, Cond.selects RX7 yX7_stands yX7_stands, Cond.code yX7_stands cX7_stands 5 none, Cond.methodLink RX7 113 yX7_goesBy, Cond.instanceMethod yX7_goesBy, Cond.selects RX7 yX7_goesBy yX7_goesBy, Cond.code yX7_goesBy cX7_goesBy 4 (some .int), Cond.methodLink RX7 108 yX7_things]
def wsX7_day_r2 : List Cond := [Cond.instanceMethod yX7_things, Cond.selects RX7 yX7_things yX7_things, Cond.code yX7_things cX7_things 2 (some .int), Cond.methodLink RX7 104 yX7_goesAway, Cond.instanceMethod yX7_goesAway, Cond.selects RX7 yX7_goesAway yX7_goesAway, Cond.code yX7_goesAway cX7_goesAway 3 none, Cond.methodLink RX7 178 yX7_backs, Cond.instanceMethod yX7_backs, Cond.selects RX7 yX7_backs yX7_backs, Cond.code yX7_backs cX7_backs 2 none]
def wsX7_day : List Cond := .code yX7_day cX7_day 9 (some .int) :: ((wsX7_day_r1 ++ wsX7_day_r2) ++ wsX70)
def wsX7_keep : List Cond := .code yX7_keep cX7_keep 2 (some .int) :: ([.fieldLink RX7 94 "SecondTillModel" "keeps" "I", .fieldLink RX7 37 "SecondTillModel" "kept" "[I", .fieldLink RX7 7 "SecondTillModel" "row" "[I"] ++ wsX70)
def wsX7_back : List Cond := .code yX7_back cX7_back 2 (some .int) :: ([.fieldLink RX7 94 "SecondTillModel" "keeps" "I", .fieldLink RX7 7 "SecondTillModel" "row" "[I", .fieldLink RX7 37 "SecondTillModel" "kept" "[I", .fieldLink RX7 88 "SecondTillModel" "taped" "I", .fieldLink RX7 91 "SecondTillModel" "undos" "I"] ++ wsX70)
def wsX7_count : List Cond := .code yX7_count cX7_count 2 (some .int) :: ([.fieldLink RX7 7 "SecondTillModel" "row" "[I", .fieldLink RX7 88 "SecondTillModel" "taped" "I", .fieldLink RX7 91 "SecondTillModel" "undos" "I", .fieldLink RX7 94 "SecondTillModel" "keeps" "I", .fieldLink RX7 62 "SecondTillModel" "letters" "I"] ++ wsX70)
def wsJ9_max_7cf53 : List Cond := .code yJ9_max_7cf53 cJ9_max_7cf53 2 (some .int) :: ([])
def wsL_law_r1 : List Cond := [Cond.classLink RL 7 RX6, Cond.instantiable RX6 8, Cond.initialized RX6, Cond.classLink RL 10 RX7, Cond.instantiable RX7 17, Cond.initialized RX7, Cond.methodLink RL 9 yX6_init, Cond.instanceMethod yX6_init, Cond.code yX6_init cX6_init 2 none, Cond.methodLink RX6 1 objectInit, Cond.instanceMethod objectInit, Cond.code objectInit ⟨#[0xb1]⟩ 1 none, Cond.classLink RX6 7 RX5, Cond.instantiable RX5 3, Cond.initialized RX5, Cond.fieldLink RX6 10 "SecondTill" "text" "LSecondTill$Text;", Cond.classLink RX6 16 RX3, Cond.instantiable RX3 7, Cond.initialized RX3, Cond.fieldLink RX6 19 "SecondTill" "shop" "LSecondTill$Shop;", Cond.fieldLink RX6 23 "SecondTill" "spare" "LSecondTill$Shop;", Cond.classLink RX6 26 RX1, Cond.instantiable RX1 2, Cond.initialized RX1]
def wsL_law_r2 : List Cond := [Cond.fieldLink RX6 31 "SecondTill" "past" "LSecondTill$Pile;", Cond.fieldLink RX6 35 "SecondTill" "shelf" "LSecondTill$Pile;", Cond.classLink RX6 38 RX4, Cond.instantiable RX4 3, Cond.initialized RX4, Cond.fieldLink RX6 41 "SecondTill" "roll" "LSecondTill$Tape;", Cond.classLink RX6 45 RX0, Cond.instantiable RX0 8, Cond.initialized RX0, Cond.fieldLink RX6 48 "SecondTill" "crossing" "LSecondTill$Crossing;", Cond.classLink RX6 52 RX2, Cond.instantiable RX2 3, Cond.initialized RX2, Cond.fieldLink RX6 55 "SecondTill" "search" "LSecondTill$Search;", Cond.fieldLink RX6 79 "SecondTill$Text" "length" "I", Cond.instanceMethod yX5_init, Cond.code yX5_init cX5_init 1 none, Cond.methodLink RX5 3 objectInit, Cond.arrayClass .char, Cond.fieldLink RX5 9 "SecondTill$Text" "letters" "[C", Cond.arrayClass .int, Cond.fieldLink RX5 15 "SecondTill$Text" "numbers" "[I", Cond.instanceMethod yX3_init, Cond.code yX3_init cX3_init 1 none]
def wsL_law_r3 : List Cond := [Cond.methodLink RX3 3 objectInit, Cond.fieldLink RX3 9 "SecondTill$Shop" "kind" "[I", Cond.fieldLink RX3 15 "SecondTill$Shop" "things" "[I", Cond.fieldLink RX3 18 "SecondTill$Shop" "feet" "[I", Cond.fieldLink RX3 21 "SecondTill$Shop" "firstPace" "I", Cond.fieldLink RX3 25 "SecondTill$Shop" "secondPace" "I", Cond.fieldLink RX3 28 "SecondTill$Shop" "steps" "I", Cond.methodLink RX6 28 yX1_init, Cond.instanceMethod yX1_init, Cond.code yX1_init cX1_init 3 none, Cond.methodLink RX1 1 objectInit, Cond.methodLink RX1 7 Lib.Math.max.name, Cond.static Lib.Math.max.name, Cond.initialized "java/lang/Math", Cond.code Lib.Math.max.name Lib.Math.max.code 2 (some .int), Cond.classLink RX1 13 RX3, Cond.fieldLink RX1 15 "SecondTill$Pile" "places" "[LSecondTill$Shop;", Cond.instanceMethod yX4_init, Cond.code yX4_init cX4_init 1 none, Cond.methodLink RX4 3 objectInit, Cond.fieldLink RX4 9 "SecondTill$Tape" "who" "[I", Cond.fieldLink RX4 15 "SecondTill$Tape" "where" "[I", Cond.instanceMethod yX0_init, Cond.code yX0_init cX0_init 1 none]
def wsL_law_r4 : List Cond := [Cond.methodLink RX0 3 objectInit, Cond.fieldLink RX0 9 "SecondTill$Crossing" "kind" "[I", Cond.fieldLink RX0 15 "SecondTill$Crossing" "walk" "[I", Cond.fieldLink RX0 18 "SecondTill$Crossing" "first" "[I", Cond.fieldLink RX0 21 "SecondTill$Crossing" "second" "[I", Cond.fieldLink RX0 24 "SecondTill$Crossing" "order" "[I", Cond.fieldLink RX0 27 "SecondTill$Crossing" "ready" "[I", Cond.instanceMethod yX2_init, Cond.code yX2_init cX2_init 1 none, Cond.methodLink RX2 3 objectInit, Cond.classLink RX2 9 RX0, Cond.fieldLink RX2 12 "SecondTill$Search" "trial" "LSecondTill$Crossing;", Cond.methodLink RX6 61 yJ0_length_8abf5, Cond.instanceMethod yJ0_length_8abf5, Cond.selects RJ0 yJ0_length_8abf5 yJ0_length_8abf5, Cond.initialized RJ0, Cond.code yJ0_length_8abf5 cJ0_length_8abf5 1 (some .int), Cond.fieldLink RJ0 9 "java/lang/String" "value" "[B", Cond.methodLink RJ0 335 yJ0_coder_7d493, Cond.instanceMethod yJ0_coder_7d493, Cond.selects RJ0 yJ0_coder_7d493 yJ0_coder_7d493, Cond.code yJ0_coder_7d493 cJ0_coder_7d493 1 (some .byte), Cond.fieldLink RJ0 38 "java/lang/String" "COMPACT_STRINGS" "Z", Cond.fieldLink RJ0 15 "java/lang/String" "coder" "B"]
def wsL_law_r5 : List Cond := [Cond.methodLink RX6 67 yJ0_charAt_5068e, Cond.instanceMethod yJ0_charAt_5068e, Cond.selects RJ0 yJ0_charAt_5068e yJ0_charAt_5068e, Cond.code yJ0_charAt_5068e cJ0_charAt_5068e 2 (some .char), Cond.methodLink RJ0 492 yJ0_isLatin1_aae02, Cond.instanceMethod yJ0_isLatin1_aae02, Cond.selects RJ0 yJ0_isLatin1_aae02 yJ0_isLatin1_aae02, Cond.code yJ0_isLatin1_aae02 cJ0_isLatin1_aae02 1 (some .boolean), Cond.methodLink RJ0 495 yJ1_charAt_3b067, Cond.static yJ1_charAt_3b067, Cond.initialized RJ1, Cond.code yJ1_charAt_3b067 cJ1_charAt_3b067 2 (some .char), Cond.methodLink RJ1 9 yJ0_checkIndex_df160, Cond.static yJ0_checkIndex_df160, Cond.code yJ0_checkIndex_df160 cJ0_checkIndex_df160 2 none, Cond.fieldLink RJ0 1053 "jdk/internal/util/Preconditions" "SIOOBE_FORMATTER" "Ljava/util/function/BiFunction;", Cond.methodLink RJ0 1059 yJ3_checkIndex_8e157, Cond.static yJ3_checkIndex_8e157, Cond.initialized RJ3, Cond.code yJ3_checkIndex_8e157 cJ3_checkIndex_8e157 3 (some .int), Cond.methodLink RJ0 498 yJ2_charAt_3b067, Cond.static yJ2_charAt_3b067, Cond.initialized RJ2, Cond.code yJ2_charAt_3b067 cJ2_charAt_3b067 2 (some .char)]
def wsL_law_r6 : List Cond := [Cond.methodLink RJ2 67 yJ2_checkIndex_2214a, Cond.static yJ2_checkIndex_2214a, Cond.code yJ2_checkIndex_2214a cJ2_checkIndex_2214a 2 none, Cond.methodLink RJ2 48 yJ2_length_9d52b, Cond.static yJ2_length_9d52b, Cond.code yJ2_length_9d52b cJ2_length_9d52b 1 (some .int), Cond.methodLink RJ2 414 yJ0_checkIndex_df160, Cond.methodLink RJ2 71 yJ2_getChar_3b067, Cond.static yJ2_getChar_3b067, Cond.code yJ2_getChar_3b067 cJ2_getChar_3b067 2 (some .char), Cond.fieldLink RJ2 44 "java/lang/StringUTF16" "$assertionsDisabled" "Z", Cond.fieldLink RJ2 59 "java/lang/StringUTF16" "HI_BYTE_SHIFT" "I", Cond.fieldLink RJ2 63 "java/lang/StringUTF16" "LO_BYTE_SHIFT" "I", Cond.methodLink RX6 71 yX5_append, Cond.instanceMethod yX5_append, Cond.selects RX5 yX5_append yX5_append, Cond.code yX5_append cX5_append 2 (some .boolean), Cond.fieldLink RX5 19 "SecondTill$Text" "length" "I", Cond.methodLink RX6 75 yX5_readInto, Cond.instanceMethod yX5_readInto, Cond.selects RX5 yX5_readInto yX5_readInto, Cond.code yX5_readInto cX5_readInto 5 (some .int), Cond.methodLink RX5 23 yX3_becomeUntold, Cond.instanceMethod yX3_becomeUntold]
def wsL_law_r7 : List Cond := [Cond.selects RX3 yX3_becomeUntold yX3_becomeUntold, Cond.code yX3_becomeUntold cX3_becomeUntold 1 none, Cond.fieldLink RX3 31 "SecondTill$Shop" "people" "I", Cond.methodLink RX5 28 yX5_endOfItem, Cond.instanceMethod yX5_endOfItem, Cond.selects RX5 yX5_endOfItem yX5_endOfItem, Cond.code yX5_endOfItem cX5_endOfItem 7 (some .int), Cond.methodLink RX5 32 yX5_letterAt, Cond.instanceMethod yX5_letterAt, Cond.selects RX5 yX5_letterAt yX5_letterAt, Cond.code yX5_letterAt cX5_letterAt 2 (some .char), Cond.methodLink RX5 40 yX5_numbersBehind, Cond.static yX5_numbersBehind, Cond.code yX5_numbersBehind cX5_numbersBehind 1 (some .int), Cond.methodLink RX5 44 yX5_endOfNumber, Cond.instanceMethod yX5_endOfNumber, Cond.selects RX5 yX5_endOfNumber yX5_endOfNumber, Cond.code yX5_endOfNumber cX5_endOfNumber 3 (some .int), Cond.methodLink RX5 51 yX5_isFigure, Cond.static yX5_isFigure, Cond.code yX5_isFigure cX5_isFigure 1 (some .boolean), Cond.methodLink RX5 47 yX5_numberBetween, Cond.instanceMethod yX5_numberBetween, Cond.selects RX5 yX5_numberBetween yX5_numberBetween]
def wsL_law_r8 : List Cond := [Cond.code yX5_numberBetween cX5_numberBetween 5 (some .int), Cond.methodLink RX5 36 yX5_tell, Cond.instanceMethod yX5_tell, Cond.selects RX5 yX5_tell yX5_tell, Cond.code yX5_tell cX5_tell 3 (some .boolean), Cond.methodLink RX5 55 yX3_append, Cond.instanceMethod yX3_append, Cond.selects RX3 yX3_append yX3_append, Cond.code yX3_append cX3_append 4 (some .boolean), Cond.static yX6_isPerson, Cond.code yX6_isPerson cX6_isPerson 3 (some .boolean), Cond.methodLink RX6 82 yX6_within, Cond.static yX6_within, Cond.code yX6_within cX6_within 3 (some .boolean), Cond.methodLink RX5 59 yX3_setPaces, Cond.instanceMethod yX3_setPaces, Cond.selects RX3 yX3_setPaces yX3_setPaces, Cond.code yX3_setPaces cX3_setPaces 3 (some .boolean), Cond.methodLink RX5 63 yX3_setSteps, Cond.instanceMethod yX3_setSteps, Cond.selects RX3 yX3_setSteps yX3_setSteps, Cond.code yX3_setSteps cX3_setSteps 2 (some .boolean), Cond.methodLink RL 12 yX7_init, Cond.instanceMethod yX7_init]
def wsL_law_r9 : List Cond := [Cond.code yX7_init cX7_init 1 none, Cond.methodLink RX7 1 objectInit, Cond.fieldLink RX7 7 "SecondTillModel" "row" "[I", Cond.fieldLink RX7 13 "SecondTillModel" "text" "[I", Cond.fieldLink RX7 16 "SecondTillModel" "read" "[I", Cond.fieldLink RX7 19 "SecondTillModel" "undone" "[I", Cond.fieldLink RX7 22 "SecondTillModel" "order" "[I", Cond.fieldLink RX7 25 "SecondTillModel" "dones" "[I", Cond.fieldLink RX7 28 "SecondTillModel" "aside" "[I", Cond.fieldLink RX7 31 "SecondTillModel" "tapedWho" "[I", Cond.fieldLink RX7 34 "SecondTillModel" "tapedTill" "[I", Cond.fieldLink RX7 37 "SecondTillModel" "kept" "[I", Cond.methodLink RX7 40 yX7_stands, Cond.instanceMethod yX7_stands, Cond.selects RX7 yX7_stands yX7_stands, Cond.code yX7_stands cX7_stands 5 none, Cond.methodLink RL 13 yX6_write, Cond.instanceMethod yX6_write, Cond.selects RX6 yX6_write yX6_write, Cond.code yX6_write cX6_write 2 (some .int), Cond.methodLink RL 17 yX7_write, Cond.instanceMethod yX7_write, Cond.selects RX7 yX7_write yX7_write, Cond.code yX7_write cX7_write 2 (some .int)]
def wsL_law_r10 : List Cond := [Cond.constantLong RX7 58 (32), Cond.constantLong RX7 60 (126), Cond.fieldLink RX7 62 "SecondTillModel" "letters" "I", Cond.methodLink RX7 44 yX7_in, Cond.static yX7_in, Cond.code yX7_in cX7_in 6 (some .boolean), Cond.methodLink RL 18 yX6_wipe, Cond.instanceMethod yX6_wipe, Cond.selects RX6 yX6_wipe yX6_wipe, Cond.code yX6_wipe cX6_wipe 2 (some .int), Cond.methodLink RL 22 yX7_wipe, Cond.instanceMethod yX7_wipe, Cond.selects RX7 yX7_wipe yX7_wipe, Cond.code yX7_wipe cX7_wipe 2 (some .int), Cond.methodLink RL 23 yX6_fault, Cond.instanceMethod yX6_fault, Cond.selects RX6 yX6_fault yX6_fault, Cond.code yX6_fault cX6_fault 1 (some .int), Cond.methodLink RL 26 yX7_fault, Cond.instanceMethod yX7_fault, Cond.selects RX7 yX7_fault yX7_fault, Cond.code yX7_fault cX7_fault 2 (some .int), Cond.fieldLink RX7 66 "SecondTillModel" "at" "I", Cond.methodLink RX7 81 yX7_item]
def wsL_law_r11 : List Cond := [Cond.instanceMethod yX7_item, Cond.selects RX7 yX7_item yX7_item, Cond.code yX7_item cX7_item 3 (some .boolean), Cond.methodLink RX7 77 yX7_number, Cond.instanceMethod yX7_number, Cond.selects RX7 yX7_number yX7_number, Cond.code yX7_number cX7_number 7 (some .boolean), Cond.methodLink RX7 73 yX7_isFigure, Cond.instanceMethod yX7_isFigure, Cond.selects RX7 yX7_isFigure yX7_isFigure, Cond.code yX7_isFigure cX7_isFigure 1 (some .boolean), Cond.constantLong RX7 69 (48), Cond.constantLong RX7 71 (57), Cond.methodLink RL 27 yX6_lay, Cond.instanceMethod yX6_lay, Cond.selects RX6 yX6_lay yX6_lay, Cond.code yX6_lay cX6_lay 1 (some .int), Cond.fieldLink RX6 86 "SecondTill$Shop" "people" "I", Cond.fieldLink RX6 93 "SecondTill$Tape" "length" "I", Cond.fieldLink RX6 94 "SecondTill$Pile" "height" "I", Cond.methodLink RX6 89 yX3_becomeLike, Cond.instanceMethod yX3_becomeLike, Cond.selects RX3 yX3_becomeLike yX3_becomeLike, Cond.code yX3_becomeLike cX3_becomeLike 3 none]
def wsL_law_r12 : List Cond := [Cond.methodLink RL 30 yX7_lay, Cond.instanceMethod yX7_lay, Cond.selects RX7 yX7_lay yX7_lay, Cond.code yX7_lay cX7_lay 2 (some .int), Cond.fieldLink RX7 88 "SecondTillModel" "taped" "I", Cond.fieldLink RX7 91 "SecondTillModel" "undos" "I", Cond.fieldLink RX7 94 "SecondTillModel" "keeps" "I", Cond.methodLink RX7 84 yX7_fault, Cond.methodLink RL 31 yX6_person, Cond.instanceMethod yX6_person, Cond.selects RX6 yX6_person yX6_person, Cond.code yX6_person cX6_person 3 (some .int), Cond.fieldLink RX6 101 "SecondTill$Shop" "kind" "[I", Cond.fieldLink RX6 105 "SecondTill$Shop" "things" "[I", Cond.fieldLink RX6 108 "SecondTill$Shop" "feet" "[I", Cond.methodLink RX6 97 yX3_has, Cond.instanceMethod yX3_has, Cond.selects RX3 yX3_has yX3_has, Cond.code yX3_has cX3_has 2 (some .boolean), Cond.methodLink RX6 111 yX3_walk, Cond.instanceMethod yX3_walk, Cond.selects RX3 yX3_walk yX3_walk, Cond.code yX3_walk cX3_walk 2 (some .int), Cond.methodLink RX3 41 yX3_has]
def wsL_law_r13 : List Cond := [Cond.methodLink RL 35 yX7_person, Cond.instanceMethod yX7_person, Cond.selects RX7 yX7_person yX7_person, Cond.code yX7_person cX7_person 3 (some .int), Cond.constantLong RX7 52 (3), Cond.methodLink RX7 48 yX7_isPerson, Cond.instanceMethod yX7_isPerson, Cond.selects RX7 yX7_isPerson yX7_isPerson, Cond.code yX7_isPerson cX7_isPerson 2 (some .boolean), Cond.methodLink RX7 54 yX7_walk, Cond.instanceMethod yX7_walk, Cond.selects RX7 yX7_walk yX7_walk, Cond.code yX7_walk cX7_walk 2 (some .int), Cond.methodLink RL 36 yX6_come, Cond.instanceMethod yX6_come, Cond.selects RX6 yX6_come yX6_come, Cond.code yX6_come cX6_come 4 (some .int), Cond.methodLink RX6 115 yX6_isPerson, Cond.methodLink RX6 118 yX6_beforeRowChanges, Cond.instanceMethod yX6_beforeRowChanges, Cond.selects RX6 yX6_beforeRowChanges yX6_beforeRowChanges, Cond.code yX6_beforeRowChanges cX6_beforeRowChanges 1 none, Cond.methodLink RX6 132 yX1_putDroppingOldest, Cond.instanceMethod yX1_putDroppingOldest]
def wsL_law_r14 : List Cond := [Cond.selects RX1 yX1_putDroppingOldest yX1_putDroppingOldest, Cond.code yX1_putDroppingOldest cX1_putDroppingOldest 4 none, Cond.fieldLink RX1 22 "SecondTill$Pile" "height" "I", Cond.methodLink RX1 30 yX1_put, Cond.instanceMethod yX1_put, Cond.selects RX1 yX1_put yX1_put, Cond.code yX1_put cX1_put 2 (some .boolean), Cond.methodLink RX1 26 yX3_becomeLike, Cond.methodLink RX6 121 yX3_append, Cond.methodLink RL 40 yX7_come, Cond.instanceMethod yX7_come, Cond.selects RX7 yX7_come yX7_come, Cond.code yX7_come cX7_come 4 (some .int), Cond.constantLong RX7 97 (20), Cond.constantLong RX7 99 (9), Cond.methodLink RX7 101 yX7_notes, Cond.instanceMethod yX7_notes, Cond.selects RX7 yX7_notes yX7_notes, Cond.code yX7_notes cX7_notes 2 none, Cond.methodLink RL 41 yX6_leave, Cond.instanceMethod yX6_leave, Cond.selects RX6 yX6_leave yX6_leave, Cond.code yX6_leave cX6_leave 2 (some .int), Cond.methodLink RX6 123 yX3_removeAt]
def wsL_law_r15 : List Cond := [Cond.instanceMethod yX3_removeAt, Cond.selects RX3 yX3_removeAt yX3_removeAt, Cond.code yX3_removeAt cX3_removeAt 3 none, Cond.methodLink RL 44 yX7_leave, Cond.instanceMethod yX7_leave, Cond.selects RX7 yX7_leave yX7_leave, Cond.code yX7_leave cX7_leave 2 (some .int), Cond.methodLink RX7 104 yX7_goesAway, Cond.instanceMethod yX7_goesAway, Cond.selects RX7 yX7_goesAway yX7_goesAway, Cond.code yX7_goesAway cX7_goesAway 3 none, Cond.methodLink RL 45 yX6_pass, Cond.instanceMethod yX6_pass, Cond.selects RX6 yX6_pass yX6_pass, Cond.code yX6_pass cX6_pass 2 (some .int), Cond.methodLink RX6 126 yX3_letGoBy, Cond.instanceMethod yX3_letGoBy, Cond.selects RX3 yX3_letGoBy yX3_letGoBy, Cond.code yX3_letGoBy cX3_letGoBy 6 (some .int), Cond.methodLink RX3 45 yX3_thingsThrough, Cond.instanceMethod yX3_thingsThrough, Cond.selects RX3 yX3_thingsThrough yX3_thingsThrough, Cond.code yX3_thingsThrough cX3_thingsThrough 2 (some .int), Cond.methodLink RX3 49 yX3_removeAt]
def wsL_law_r16 : List Cond := [Cond.methodLink RL 48 yX7_pass, Cond.instanceMethod yX7_pass, Cond.selects RX7 yX7_pass yX7_pass, Cond.code yX7_pass cX7_pass 2 (some .int), Cond.constantLong RX7 111 (200), Cond.methodLink RX7 113 yX7_goesBy, Cond.instanceMethod yX7_goesBy, Cond.selects RX7 yX7_goesBy yX7_goesBy, Cond.code yX7_goesBy cX7_goesBy 4 (some .int), Cond.methodLink RX7 108 yX7_things, Cond.instanceMethod yX7_things, Cond.selects RX7 yX7_things yX7_things, Cond.code yX7_things cX7_things 2 (some .int), Cond.methodLink RL 49 yX6_slow, Cond.instanceMethod yX6_slow, Cond.selects RX6 yX6_slow yX6_slow, Cond.code yX6_slow cX6_slow 3 (some .int), Cond.fieldLink RX6 129 "SecondTill$Shop" "secondPace" "I", Cond.methodLink RL 52 yX7_slow, Cond.instanceMethod yX7_slow, Cond.selects RX7 yX7_slow yX7_slow, Cond.code yX7_slow cX7_slow 3 (some .int), Cond.methodLink RL 53 yX6_undo, Cond.instanceMethod yX6_undo]
def wsL_law_r17 : List Cond := [Cond.selects RX6 yX6_undo yX6_undo, Cond.code yX6_undo cX6_undo 1 (some .int), Cond.methodLink RX6 135 yX1_takeInto, Cond.instanceMethod yX1_takeInto, Cond.selects RX1 yX1_takeInto yX1_takeInto, Cond.code yX1_takeInto cX1_takeInto 2 (some .boolean), Cond.methodLink RL 56 yX7_undo, Cond.instanceMethod yX7_undo, Cond.selects RX7 yX7_undo yX7_undo, Cond.code yX7_undo cX7_undo 2 (some .int), Cond.methodLink RL 57 yX6_goes, Cond.instanceMethod yX6_goes, Cond.selects RX6 yX6_goes yX6_goes, Cond.code yX6_goes cX6_goes 2 (some .int), Cond.fieldLink RX6 145 "SecondTill$Crossing" "away" "I", Cond.methodLink RX6 139 yX0_lookAt, Cond.instanceMethod yX0_lookAt, Cond.selects RX0 yX0_lookAt yX0_lookAt, Cond.code yX0_lookAt cX0_lookAt 3 none, Cond.fieldLink RX0 30 "SecondTill$Shop" "people" "I", Cond.fieldLink RX0 36 "SecondTill$Crossing" "people" "I", Cond.fieldLink RX0 37 "SecondTill$Shop" "kind" "[I", Cond.fieldLink RX0 41 "SecondTill$Shop" "firstPace" "I", Cond.fieldLink RX0 44 "SecondTill$Shop" "things" "[I"]
def wsL_law_r18 : List Cond := [Cond.fieldLink RX0 47 "SecondTill$Shop" "secondPace" "I", Cond.methodLink RX0 38 yX3_walk, Cond.methodLink RX0 50 yX0_lineUp, Cond.instanceMethod yX0_lineUp, Cond.selects RX0 yX0_lineUp yX0_lineUp, Cond.code yX0_lineUp cX0_lineUp 4 none, Cond.methodLink RX6 142 yX0_letDecide, Cond.instanceMethod yX0_letDecide, Cond.selects RX0 yX0_letDecide yX0_letDecide, Cond.code yX0_letDecide cX0_letDecide 5 none, Cond.fieldLink RX0 53 "SecondTill$Crossing" "away" "I", Cond.methodLink RX0 56 Lib.Math.max.name, Cond.methodLink RX0 62 yX0_wouldGo, Cond.instanceMethod yX0_wouldGo, Cond.selects RX0 yX0_wouldGo yX0_wouldGo, Cond.code yX0_wouldGo cX0_wouldGo 3 (some .boolean), Cond.methodLink RX0 72 yX0_stayingAheadOf, Cond.instanceMethod yX0_stayingAheadOf, Cond.selects RX0 yX0_stayingAheadOf yX0_stayingAheadOf, Cond.code yX0_stayingAheadOf cX0_stayingAheadOf 2 (some .int), Cond.methodLink RX0 75 yJ6_bitCount_0f7a4, Cond.static yJ6_bitCount_0f7a4, Cond.initialized RJ6, Cond.code yJ6_bitCount_0f7a4 cJ6_bitCount_0f7a4 1 (some .int)]
def wsL_law_r19 : List Cond := [Cond.constant RJ6 265 (1431655765), Cond.constant RJ6 266 (858993459), Cond.constant RJ6 267 (252645135), Cond.methodLink RX0 80 yX0_readyInRow, Cond.instanceMethod yX0_readyInRow, Cond.selects RX0 yX0_readyInRow yX0_readyInRow, Cond.code yX0_readyInRow cX0_readyInRow 4 (some .int), Cond.methodLink RX0 83 yX0_isAway, Cond.instanceMethod yX0_isAway, Cond.selects RX0 yX0_isAway yX0_isAway, Cond.code yX0_isAway cX0_isAway 2 (some .boolean), Cond.methodLink RX0 66 yX0_letTakePlacesBack, Cond.instanceMethod yX0_letTakePlacesBack, Cond.selects RX0 yX0_letTakePlacesBack yX0_letTakePlacesBack, Cond.code yX0_letTakePlacesBack cX0_letTakePlacesBack 2 none, Cond.methodLink RX0 69 yX0_serveRow, Cond.instanceMethod yX0_serveRow, Cond.selects RX0 yX0_serveRow yX0_serveRow, Cond.code yX0_serveRow cX0_serveRow 3 none, Cond.methodLink RX6 148 yX0_servedThere, Cond.instanceMethod yX0_servedThere, Cond.selects RX0 yX0_servedThere yX0_servedThere, Cond.code yX0_servedThere cX0_servedThere 4 (some .int), Cond.methodLink RL 60 yX7_goes]
def wsL_law_r20 : List Cond := [Cond.instanceMethod yX7_goes, Cond.selects RX7 yX7_goes yX7_goes, Cond.code yX7_goes cX7_goes 6 (some .int), Cond.constantLong RX7 141 (-1), Cond.constantLong RX7 143 (7), Cond.fieldLink RX7 119 "SecondTillModel" "away" "I", Cond.methodLink RX7 145 yX7_opens, Cond.instanceMethod yX7_opens, Cond.selects RX7 yX7_opens yX7_opens, Cond.code yX7_opens cX7_opens 6 none, Cond.methodLink RX7 116 yX7_orders, Cond.instanceMethod yX7_orders, Cond.selects RX7 yX7_orders yX7_orders, Cond.code yX7_orders cX7_orders 5 none, Cond.methodLink RX7 122 yX7_many, Cond.static yX7_many, Cond.code yX7_many cX7_many 3 (some .int), Cond.methodLink RX7 125 yX7_there, Cond.instanceMethod yX7_there, Cond.selects RX7 yX7_there yX7_there, Cond.code yX7_there cX7_there 3 (some .int), Cond.methodLink RX7 129 yX7_inRow, Cond.instanceMethod yX7_inRow, Cond.selects RX7 yX7_inRow yX7_inRow]
def wsL_law_r21 : List Cond := [Cond.code yX7_inRow cX7_inRow 5 (some .int), Cond.methodLink RX7 132 yX7_kind, Cond.instanceMethod yX7_kind, Cond.selects RX7 yX7_kind yX7_kind, Cond.code yX7_kind cX7_kind 2 (some .int), Cond.methodLink RX7 135 yX7_rests, Cond.instanceMethod yX7_rests, Cond.selects RX7 yX7_rests yX7_rests, Cond.code yX7_rests cX7_rests 2 none, Cond.methodLink RL 61 yX6_done, Cond.instanceMethod yX6_done, Cond.selects RX6 yX6_done yX6_done, Cond.code yX6_done cX6_done 3 (some .int), Cond.methodLink RX6 151 yX6_isPersonOrSum, Cond.instanceMethod yX6_isPersonOrSum, Cond.selects RX6 yX6_isPersonOrSum yX6_isPersonOrSum, Cond.code yX6_isPersonOrSum cX6_isPersonOrSum 2 (some .boolean), Cond.methodLink RX6 154 yX0_send, Cond.instanceMethod yX0_send, Cond.selects RX0 yX0_send yX0_send, Cond.code yX0_send cX0_send 5 none, Cond.methodLink RX6 157 yX0_readyOf, Cond.instanceMethod yX0_readyOf, Cond.selects RX0 yX0_readyOf yX0_readyOf]
def wsL_law_r22 : List Cond := [Cond.code yX0_readyOf cX0_readyOf 2 (some .int), Cond.methodLink RX0 87 yX0_sum, Cond.instanceMethod yX0_sum, Cond.selects RX0 yX0_sum yX0_sum, Cond.code yX0_sum cX0_sum 1 (some .int), Cond.methodLink RX0 94 yX0_sumOfHead, Cond.instanceMethod yX0_sumOfHead, Cond.selects RX0 yX0_sumOfHead yX0_sumOfHead, Cond.code yX0_sumOfHead cX0_sumOfHead 4 (some .int), Cond.methodLink RX0 91 yX0_latest, Cond.instanceMethod yX0_latest, Cond.selects RX0 yX0_latest yX0_latest, Cond.code yX0_latest cX0_latest 3 (some .int), Cond.methodLink RL 64 yX7_done, Cond.instanceMethod yX7_done, Cond.selects RX7 yX7_done yX7_done, Cond.code yX7_done cX7_done 3 (some .int), Cond.methodLink RX7 154 yX7_isAsked, Cond.instanceMethod yX7_isAsked, Cond.selects RX7 yX7_isAsked yX7_isAsked, Cond.code yX7_isAsked cX7_isAsked 2 (some .boolean), Cond.methodLink RX7 157 yX7_sends, Cond.instanceMethod yX7_sends, Cond.selects RX7 yX7_sends yX7_sends]
def wsL_law_r23 : List Cond := [Cond.code yX7_sends cX7_sends 5 none, Cond.methodLink RX7 160 yX7_asked, Cond.instanceMethod yX7_asked, Cond.selects RX7 yX7_asked yX7_asked, Cond.code yX7_asked cX7_asked 2 (some .int), Cond.methodLink RX7 148 yX7_latest, Cond.instanceMethod yX7_latest, Cond.selects RX7 yX7_latest yX7_latest, Cond.code yX7_latest cX7_latest 3 (some .int), Cond.methodLink RX7 151 yX7_sum, Cond.instanceMethod yX7_sum, Cond.selects RX7 yX7_sum yX7_sum, Cond.code yX7_sum cX7_sum 3 (some .int), Cond.methodLink RL 65 yX6_overtaken, Cond.instanceMethod yX6_overtaken, Cond.selects RX6 yX6_overtaken yX6_overtaken, Cond.code yX6_overtaken cX6_overtaken 2 (some .int), Cond.methodLink RX6 160 yX0_overtakings, Cond.instanceMethod yX0_overtakings, Cond.selects RX0 yX0_overtakings yX0_overtakings, Cond.code yX0_overtakings cX0_overtakings 3 (some .int), Cond.methodLink RX0 97 yX0_overtakersOf, Cond.instanceMethod yX0_overtakersOf, Cond.selects RX0 yX0_overtakersOf yX0_overtakersOf]
def wsL_law_r24 : List Cond := [Cond.code yX0_overtakersOf cX0_overtakersOf 4 (some .int), Cond.methodLink RX6 163 yX0_overtakersOf, Cond.methodLink RL 68 yX7_overtaken, Cond.instanceMethod yX7_overtaken, Cond.selects RX7 yX7_overtaken yX7_overtaken, Cond.code yX7_overtaken cX7_overtaken 2 (some .int), Cond.methodLink RX7 163 yX7_overtakings, Cond.instanceMethod yX7_overtakings, Cond.selects RX7 yX7_overtakings yX7_overtakings, Cond.code yX7_overtakings cX7_overtakings 3 (some .int), Cond.methodLink RX7 138 yX7_overtakes, Cond.instanceMethod yX7_overtakes, Cond.selects RX7 yX7_overtakes yX7_overtakes, Cond.code yX7_overtakes cX7_overtakes 4 (some .int), Cond.methodLink RL 69 yX6_best, Cond.instanceMethod yX6_best, Cond.selects RX6 yX6_best yX6_best, Cond.code yX6_best cX6_best 3 (some .int), Cond.fieldLink RX6 170 "SecondTill$Search" "set" "I", Cond.fieldLink RX6 173 "SecondTill$Search" "least" "I", Cond.methodLink RX6 166 yX2_findLeast, Cond.instanceMethod yX2_findLeast, Cond.selects RX2 yX2_findLeast yX2_findLeast, Cond.code yX2_findLeast cX2_findLeast 6 none]
def wsL_law_r25 : List Cond := [Cond.fieldLink RX2 26 "SecondTill$Search" "set" "I", Cond.fieldLink RX2 34 "SecondTill$Search" "least" "I", Cond.fieldLink RX2 37 "SecondTill$Shop" "people" "I", Cond.methodLink RX2 18 yX0_lookAt, Cond.methodLink RX2 22 yX0_send, Cond.methodLink RX2 30 yX2_worth, Cond.instanceMethod yX2_worth, Cond.selects RX2 yX2_worth yX2_worth, Cond.code yX2_worth cX2_worth 2 (some .int), Cond.methodLink RX2 46 yX0_latest, Cond.methodLink RX2 49 yX0_sum, Cond.methodLink RX2 42 yX0_overtakings, Cond.methodLink RL 72 yX7_best, Cond.instanceMethod yX7_best, Cond.selects RX7 yX7_best yX7_best, Cond.code yX7_best cX7_best 4 (some .int), Cond.fieldLink RX7 166 "SecondTillModel" "bestSet" "I", Cond.methodLink RX7 169 yX7_leastOf, Cond.instanceMethod yX7_leastOf, Cond.selects RX7 yX7_leastOf yX7_leastOf, Cond.code yX7_leastOf cX7_leastOf 6 (some .int), Cond.methodLink RL 73 yX6_fair, Cond.instanceMethod yX6_fair, Cond.selects RX6 yX6_fair yX6_fair]
def wsL_law_r26 : List Cond := [Cond.code yX6_fair cX6_fair 2 (some .int), Cond.methodLink RL 76 yX7_fair, Cond.instanceMethod yX7_fair, Cond.selects RX7 yX7_fair yX7_fair, Cond.code yX7_fair cX7_fair 3 (some .int), Cond.methodLink RL 77 yX6_oneRow, Cond.instanceMethod yX6_oneRow, Cond.selects RX6 yX6_oneRow yX6_oneRow, Cond.code yX6_oneRow cX6_oneRow 2 (some .int), Cond.methodLink RX6 176 yX0_shareOneRow, Cond.instanceMethod yX0_shareOneRow, Cond.selects RX0 yX0_shareOneRow yX0_shareOneRow, Cond.code yX0_shareOneRow cX0_shareOneRow 4 none, Cond.methodLink RL 80 yX7_oneRow, Cond.instanceMethod yX7_oneRow, Cond.selects RX7 yX7_oneRow yX7_oneRow, Cond.code yX7_oneRow cX7_oneRow 6 (some .int), Cond.methodLink RL 81 yX6_called, Cond.instanceMethod yX6_called, Cond.selects RX6 yX6_called yX6_called, Cond.code yX6_called cX6_called 3 (some .int), Cond.methodLink RX6 179 yX6_setByRule, Cond.static yX6_setByRule, Cond.code yX6_setByRule cX6_setByRule 4 (some .int)]
def wsL_law_r27 : List Cond := [Cond.methodLink RX6 189 yX6_isCalled, Cond.static yX6_isCalled, Cond.code yX6_isCalled cX6_isCalled 3 (some .boolean), Cond.methodLink RX6 183 yX0_latest, Cond.methodLink RX6 186 yX0_sum, Cond.methodLink RL 84 yX7_called, Cond.instanceMethod yX7_called, Cond.selects RX7 yX7_called yX7_called, Cond.code yX7_called cX7_called 7 (some .int), Cond.constantLong RX7 173 (2), Cond.methodLink RL 85 yX6_open, Cond.instanceMethod yX6_open, Cond.selects RX6 yX6_open yX6_open, Cond.code yX6_open cX6_open 7 (some .int), Cond.methodLink RX6 192 yX6_secondsIfOpenedBehind, Cond.instanceMethod yX6_secondsIfOpenedBehind, Cond.selects RX6 yX6_secondsIfOpenedBehind yX6_secondsIfOpenedBehind, Cond.code yX6_secondsIfOpenedBehind cX6_secondsIfOpenedBehind 3 (some .int), Cond.methodLink RX6 195 yX3_thingsThrough, Cond.methodLink RX6 198 yX0_sumOfHead, Cond.methodLink RL 88 yX7_open, Cond.instanceMethod yX7_open, Cond.selects RX7 yX7_open yX7_open, Cond.code yX7_open cX7_open 10 (some .int)]
def wsL_law_r28 : List Cond := [Cond.methodLink RX7 175 yX7_asides, Cond.instanceMethod yX7_asides, Cond.selects RX7 yX7_asides yX7_asides, Cond.code yX7_asides cX7_asides 2 none, Cond.methodLink RX7 178 yX7_backs, Cond.instanceMethod yX7_backs, Cond.selects RX7 yX7_backs yX7_backs, Cond.code yX7_backs cX7_backs 2 none, Cond.methodLink RL 89 yX6_tape, Cond.instanceMethod yX6_tape, Cond.selects RX6 yX6_tape yX6_tape, Cond.code yX6_tape cX6_tape 3 (some .int), Cond.methodLink RX6 201 yX4_append, Cond.instanceMethod yX4_append, Cond.selects RX4 yX4_append yX4_append, Cond.code yX4_append cX4_append 3 (some .boolean), Cond.fieldLink RX4 18 "SecondTill$Tape" "length" "I", Cond.methodLink RL 92 yX7_tape, Cond.instanceMethod yX7_tape, Cond.selects RX7 yX7_tape yX7_tape, Cond.code yX7_tape cX7_tape 3 (some .int), Cond.methodLink RL 93 yX6_forget, Cond.instanceMethod yX6_forget, Cond.selects RX6 yX6_forget yX6_forget]
def wsL_law_r29 : List Cond := [Cond.code yX6_forget cX6_forget 2 (some .int), Cond.methodLink RL 96 yX7_forget, Cond.instanceMethod yX7_forget, Cond.selects RX7 yX7_forget yX7_forget, Cond.code yX7_forget cX7_forget 2 (some .int), Cond.methodLink RL 97 yX6_kinds, Cond.instanceMethod yX6_kinds, Cond.selects RX6 yX6_kinds yX6_kinds, Cond.code yX6_kinds cX6_kinds 4 (some .int), Cond.methodLink RX6 204 yX4_agreesWith, Cond.instanceMethod yX4_agreesWith, Cond.selects RX4 yX4_agreesWith yX4_agreesWith, Cond.code yX4_agreesWith cX4_agreesWith 3 (some .boolean), Cond.methodLink RL 100 yX7_kinds, Cond.instanceMethod yX7_kinds, Cond.selects RX7 yX7_kinds yX7_kinds, Cond.code yX7_kinds cX7_kinds 7 (some .int), Cond.methodLink RL 101 yX6_beaten, Cond.instanceMethod yX6_beaten, Cond.selects RX6 yX6_beaten yX6_beaten, Cond.code yX6_beaten cX6_beaten 6 (some .int), Cond.methodLink RX6 207 yX6_greatestDivisorWithTen, Cond.static yX6_greatestDivisorWithTen, Cond.code yX6_greatestDivisorWithTen cX6_greatestDivisorWithTen 2 (some .int)]
def wsL_law_r30 : List Cond := [Cond.methodLink RX6 210 yX0_turnOf, Cond.instanceMethod yX0_turnOf, Cond.selects RX0 yX0_turnOf yX0_turnOf, Cond.code yX0_turnOf cX0_turnOf 3 (some .int), Cond.methodLink RX6 213 yX6_power, Cond.static yX6_power, Cond.code yX6_power cX6_power 4 (some .int), Cond.methodLink RL 104 yX7_beaten, Cond.instanceMethod yX7_beaten, Cond.selects RX7 yX7_beaten yX7_beaten, Cond.code yX7_beaten cX7_beaten 9 (some .int), Cond.constantLong RX7 181 (10), Cond.methodLink RL 105 yX6_learner, Cond.instanceMethod yX6_learner, Cond.selects RX6 yX6_learner yX6_learner, Cond.code yX6_learner cX6_learner 3 (some .int), Cond.methodLink RL 108 yX7_learner, Cond.instanceMethod yX7_learner, Cond.selects RX7 yX7_learner yX7_learner, Cond.code yX7_learner cX7_learner 5 (some .int), Cond.methodLink RL 109 yX6_day, Cond.instanceMethod yX6_day, Cond.selects RX6 yX6_day yX6_day, Cond.code yX6_day cX6_day 7 (some .int)]
def wsL_law_r31 : List Cond := [Cond.methodLink RX6 216 yX6_drawOf, Cond.static yX6_drawOf, Cond.code yX6_drawOf cX6_drawOf 4 (some .int), Cond.constantLong RX6 219 (7919), Cond.constantLong RX6 221 (6151), Cond.constantLong RX6 223 (65521), Cond.methodLink RL 112 yX7_day, Cond.instanceMethod yX7_day, Cond.selects RX7 yX7_day yX7_day, Cond.code yX7_day cX7_day 9 (some .int), Cond.constantLong RX7 183 (9999), Cond.constantLong RX7 185 (30), Cond.constantLong RX7 187 (7919), Cond.constantLong RX7 189 (6151), Cond.constantLong RX7 191 (65521), Cond.methodLink RL 113 yX6_keep, Cond.instanceMethod yX6_keep, Cond.selects RX6 yX6_keep yX6_keep, Cond.code yX6_keep cX6_keep 1 (some .int), Cond.methodLink RX6 225 yX1_put, Cond.methodLink RL 116 yX7_keep, Cond.instanceMethod yX7_keep, Cond.selects RX7 yX7_keep yX7_keep, Cond.code yX7_keep cX7_keep 2 (some .int)]
def wsL_law_r32 : List Cond := [Cond.methodLink RL 117 yX6_back, Cond.instanceMethod yX6_back, Cond.selects RX6 yX6_back yX6_back, Cond.code yX6_back cX6_back 1 (some .int), Cond.methodLink RL 120 yX7_back, Cond.instanceMethod yX7_back, Cond.selects RX7 yX7_back yX7_back, Cond.code yX7_back cX7_back 2 (some .int), Cond.methodLink RL 121 yX6_count, Cond.instanceMethod yX6_count, Cond.selects RX6 yX6_count yX6_count, Cond.code yX6_count cX6_count 2 (some .int), Cond.fieldLink RX6 228 "SecondTill$Shop" "firstPace" "I", Cond.fieldLink RX6 231 "SecondTill$Shop" "steps" "I", Cond.methodLink RL 124 yX7_count, Cond.instanceMethod yX7_count, Cond.selects RX7 yX7_count yX7_count, Cond.code yX7_count cX7_count 2 (some .int)]
def wsL_law : List Cond := (wsL_law_r1 ++ (wsL_law_r2 ++ (wsL_law_r3 ++ (wsL_law_r4 ++ (wsL_law_r5 ++ (wsL_law_r6 ++ (wsL_law_r7 ++ (wsL_law_r8 ++ (wsL_law_r9 ++ (wsL_law_r10 ++ (wsL_law_r11 ++ (wsL_law_r12 ++ (wsL_law_r13 ++ (wsL_law_r14 ++ (wsL_law_r15 ++ (wsL_law_r16 ++ (wsL_law_r17 ++ (wsL_law_r18 ++ (wsL_law_r19 ++ (wsL_law_r20 ++ (wsL_law_r21 ++ (wsL_law_r22 ++ (wsL_law_r23 ++ (wsL_law_r24 ++ (wsL_law_r25 ++ (wsL_law_r26 ++ (wsL_law_r27 ++ (wsL_law_r28 ++ (wsL_law_r29 ++ (wsL_law_r30 ++ (wsL_law_r31 ++ wsL_law_r32))))))))))))))))))))))))))))))) ++ wsX60 ++ wsX70 ++ wsX50 ++ wsX30 ++ wsX10 ++ wsX40 ++ wsX00 ++ wsX20 ++ ([] : List Cond)
theorem inJ6 : ∀ w ∈ wsJ60, w ∈ lw_tbl := by decide +kernel
theorem inJ9 : ∀ w ∈ wsJ90, w ∈ lw_tbl := by decide +kernel
theorem inJ0 : ∀ w ∈ wsJ00, w ∈ lw_tbl := by decide +kernel
theorem inJ1 : ∀ w ∈ wsJ10, w ∈ lw_tbl := by decide +kernel
theorem inJ2 : ∀ w ∈ wsJ20, w ∈ lw_tbl := by decide +kernel
theorem inJ3 : ∀ w ∈ wsJ30, w ∈ lw_tbl := by decide +kernel
theorem dX0_init_0 : decode cX0_init 0 = .ok (.aload_n 0, 1) := by decide +kernel
theorem dX0_init_1 : decode cX0_init 1 = .ok (.invokespecial 3, 3) := by decide +kernel
theorem dX0_init_4 : decode cX0_init 4 = .ok (.aload_n 0, 1) := by decide +kernel
theorem dX0_init_5 : decode cX0_init 5 = .ok (.bipush 8, 2) := by decide +kernel
theorem dX0_init_7 : decode cX0_init 7 = .ok (.newarray .int, 2) := by decide +kernel
theorem dX0_init_9 : decode cX0_init 9 = .ok (.putfield 9, 3) := by decide +kernel
theorem dX0_init_12 : decode cX0_init 12 = .ok (.aload_n 0, 1) := by decide +kernel
theorem dX0_init_13 : decode cX0_init 13 = .ok (.bipush 8, 2) := by decide +kernel
theorem dX0_init_15 : decode cX0_init 15 = .ok (.newarray .int, 2) := by decide +kernel
theorem dX0_init_17 : decode cX0_init 17 = .ok (.putfield 15, 3) := by decide +kernel
theorem dX0_init_20 : decode cX0_init 20 = .ok (.aload_n 0, 1) := by decide +kernel
theorem dX0_init_21 : decode cX0_init 21 = .ok (.bipush 8, 2) := by decide +kernel
theorem dX0_init_23 : decode cX0_init 23 = .ok (.newarray .int, 2) := by decide +kernel
theorem dX0_init_25 : decode cX0_init 25 = .ok (.putfield 18, 3) := by decide +kernel
theorem dX0_init_28 : decode cX0_init 28 = .ok (.aload_n 0, 1) := by decide +kernel
theorem dX0_init_29 : decode cX0_init 29 = .ok (.bipush 8, 2) := by decide +kernel
theorem dX0_init_31 : decode cX0_init 31 = .ok (.newarray .int, 2) := by decide +kernel
theorem dX0_init_33 : decode cX0_init 33 = .ok (.putfield 21, 3) := by decide +kernel
theorem dX0_init_36 : decode cX0_init 36 = .ok (.aload_n 0, 1) := by decide +kernel
theorem dX0_init_37 : decode cX0_init 37 = .ok (.bipush 8, 2) := by decide +kernel
theorem dX0_init_39 : decode cX0_init 39 = .ok (.newarray .int, 2) := by decide +kernel
theorem dX0_init_41 : decode cX0_init 41 = .ok (.putfield 24, 3) := by decide +kernel
theorem dX0_init_44 : decode cX0_init 44 = .ok (.aload_n 0, 1) := by decide +kernel
theorem dX0_init_45 : decode cX0_init 45 = .ok (.bipush 8, 2) := by decide +kernel
theorem dX0_init_47 : decode cX0_init 47 = .ok (.newarray .int, 2) := by decide +kernel
theorem dX0_init_49 : decode cX0_init 49 = .ok (.putfield 27, 3) := by decide +kernel
theorem dX0_init_52 : decode cX0_init 52 = .ok (.return_, 1) := by decide +kernel
set_option maxRecDepth 20000 in
theorem ggX0_lookAt_X3_walk : GoodIn wsX0_lookAt wsX3_walk := goodIn_r _ [15, 16, 17, 18, 19, 20, 21, 14, 22, 29, 30, 31, 32, 33, 34, 35] (by decide +kernel) (by decide +kernel)
set_option maxRecDepth 20000 in
theorem gX0_lookAt_X3_walk : GoodIn wsX0_lookAt (wsV RX0 38 RX3 yX3_walk wsX3_walk) := goodIn_app (goodIn_of _ (by decide +kernel)) ggX0_lookAt_X3_walk
set_option maxRecDepth 20000 in
theorem ggX0_lookAt_X0_lineUp : GoodIn wsX0_lookAt wsX0_lineUp := goodIn_r _ [27, 2, 5, 28, 36, 37, 38, 39, 40, 41, 42, 43] (by decide +kernel) (by decide +kernel)
set_option maxRecDepth 20000 in
theorem gX0_lookAt_X0_lineUp : GoodIn wsX0_lookAt (wsV RX0 50 RX0 yX0_lineUp wsX0_lineUp) := goodIn_app (goodIn_of _ (by decide +kernel)) ggX0_lookAt_X0_lineUp
theorem dX0_lookAt_0 : decode cX0_lookAt 0 = .ok (.aload_n 0, 1) := by decide +kernel
theorem dX0_lookAt_1 : decode cX0_lookAt 1 = .ok (.aload_n 1, 1) := by decide +kernel
theorem dX0_lookAt_2 : decode cX0_lookAt 2 = .ok (.getfield 30, 3) := by decide +kernel
theorem dX0_lookAt_5 : decode cX0_lookAt 5 = .ok (.putfield 36, 3) := by decide +kernel
theorem dX0_lookAt_8 : decode cX0_lookAt 8 = .ok (.iconst 0, 1) := by decide +kernel
theorem dX0_lookAt_9 : decode cX0_lookAt 9 = .ok (.istore_n 2, 1) := by decide +kernel
theorem dX0_lookAt_10 : decode cX0_lookAt 10 = .ok (.iload_n 2, 1) := by decide +kernel
theorem dX0_lookAt_11 : decode cX0_lookAt 11 = .ok (.aload_n 0, 1) := by decide +kernel
theorem dX0_lookAt_12 : decode cX0_lookAt 12 = .ok (.getfield 36, 3) := by decide +kernel
theorem dX0_lookAt_15 : decode cX0_lookAt 15 = .ok (.if_icmp .ge 66, 3) := by decide +kernel
theorem dX0_lookAt_18 : decode cX0_lookAt 18 = .ok (.aload_n 0, 1) := by decide +kernel
theorem dX0_lookAt_19 : decode cX0_lookAt 19 = .ok (.getfield 9, 3) := by decide +kernel
theorem dX0_lookAt_22 : decode cX0_lookAt 22 = .ok (.iload_n 2, 1) := by decide +kernel
theorem dX0_lookAt_23 : decode cX0_lookAt 23 = .ok (.aload_n 1, 1) := by decide +kernel
theorem dX0_lookAt_24 : decode cX0_lookAt 24 = .ok (.getfield 37, 3) := by decide +kernel
theorem dX0_lookAt_27 : decode cX0_lookAt 27 = .ok (.iload_n 2, 1) := by decide +kernel
theorem dX0_lookAt_28 : decode cX0_lookAt 28 = .ok (.iaload, 1) := by decide +kernel
theorem dX0_lookAt_29 : decode cX0_lookAt 29 = .ok (.iastore, 1) := by decide +kernel
theorem dX0_lookAt_30 : decode cX0_lookAt 30 = .ok (.aload_n 0, 1) := by decide +kernel
theorem dX0_lookAt_31 : decode cX0_lookAt 31 = .ok (.getfield 15, 3) := by decide +kernel
theorem dX0_lookAt_34 : decode cX0_lookAt 34 = .ok (.iload_n 2, 1) := by decide +kernel
theorem dX0_lookAt_35 : decode cX0_lookAt 35 = .ok (.aload_n 1, 1) := by decide +kernel
theorem dX0_lookAt_36 : decode cX0_lookAt 36 = .ok (.iload_n 2, 1) := by decide +kernel
theorem dX0_lookAt_37 : decode cX0_lookAt 37 = .ok (.invokevirtual 38, 3) := by decide +kernel
theorem dX0_lookAt_40 : decode cX0_lookAt 40 = .ok (.iastore, 1) := by decide +kernel
theorem dX0_lookAt_41 : decode cX0_lookAt 41 = .ok (.aload_n 0, 1) := by decide +kernel
theorem dX0_lookAt_42 : decode cX0_lookAt 42 = .ok (.getfield 18, 3) := by decide +kernel
theorem dX0_lookAt_45 : decode cX0_lookAt 45 = .ok (.iload_n 2, 1) := by decide +kernel
theorem dX0_lookAt_46 : decode cX0_lookAt 46 = .ok (.aload_n 1, 1) := by decide +kernel
theorem dX0_lookAt_47 : decode cX0_lookAt 47 = .ok (.getfield 41, 3) := by decide +kernel
theorem dX0_lookAt_50 : decode cX0_lookAt 50 = .ok (.aload_n 1, 1) := by decide +kernel
theorem dX0_lookAt_51 : decode cX0_lookAt 51 = .ok (.getfield 44, 3) := by decide +kernel
theorem dX0_lookAt_54 : decode cX0_lookAt 54 = .ok (.iload_n 2, 1) := by decide +kernel
theorem dX0_lookAt_55 : decode cX0_lookAt 55 = .ok (.iaload, 1) := by decide +kernel
theorem dX0_lookAt_56 : decode cX0_lookAt 56 = .ok (.imul, 1) := by decide +kernel
theorem dX0_lookAt_57 : decode cX0_lookAt 57 = .ok (.iastore, 1) := by decide +kernel
theorem dX0_lookAt_58 : decode cX0_lookAt 58 = .ok (.aload_n 0, 1) := by decide +kernel
theorem dX0_lookAt_59 : decode cX0_lookAt 59 = .ok (.getfield 21, 3) := by decide +kernel
theorem dX0_lookAt_62 : decode cX0_lookAt 62 = .ok (.iload_n 2, 1) := by decide +kernel
theorem dX0_lookAt_63 : decode cX0_lookAt 63 = .ok (.aload_n 1, 1) := by decide +kernel
theorem dX0_lookAt_64 : decode cX0_lookAt 64 = .ok (.getfield 47, 3) := by decide +kernel
theorem dX0_lookAt_67 : decode cX0_lookAt 67 = .ok (.aload_n 1, 1) := by decide +kernel
theorem dX0_lookAt_68 : decode cX0_lookAt 68 = .ok (.getfield 44, 3) := by decide +kernel
theorem dX0_lookAt_71 : decode cX0_lookAt 71 = .ok (.iload_n 2, 1) := by decide +kernel
theorem dX0_lookAt_72 : decode cX0_lookAt 72 = .ok (.iaload, 1) := by decide +kernel
theorem dX0_lookAt_73 : decode cX0_lookAt 73 = .ok (.imul, 1) := by decide +kernel
theorem dX0_lookAt_74 : decode cX0_lookAt 74 = .ok (.iastore, 1) := by decide +kernel
theorem dX0_lookAt_75 : decode cX0_lookAt 75 = .ok (.iinc 2 1, 3) := by decide +kernel
theorem dX0_lookAt_78 : decode cX0_lookAt 78 = .ok (.goto (-68), 3) := by decide +kernel
theorem dX0_lookAt_81 : decode cX0_lookAt 81 = .ok (.aload_n 0, 1) := by decide +kernel
theorem dX0_lookAt_82 : decode cX0_lookAt 82 = .ok (.invokevirtual 50, 3) := by decide +kernel
theorem dX0_lookAt_85 : decode cX0_lookAt 85 = .ok (.return_, 1) := by decide +kernel
theorem dX0_lineUp_0 : decode cX0_lineUp 0 = .ok (.iconst 0, 1) := by decide +kernel
theorem dX0_lineUp_1 : decode cX0_lineUp 1 = .ok (.istore_n 1, 1) := by decide +kernel
theorem dX0_lineUp_2 : decode cX0_lineUp 2 = .ok (.aload_n 0, 1) := by decide +kernel
theorem dX0_lineUp_3 : decode cX0_lineUp 3 = .ok (.getfield 36, 3) := by decide +kernel
theorem dX0_lineUp_6 : decode cX0_lineUp 6 = .ok (.iconst 1, 1) := by decide +kernel
theorem dX0_lineUp_7 : decode cX0_lineUp 7 = .ok (.isub, 1) := by decide +kernel
theorem dX0_lineUp_8 : decode cX0_lineUp 8 = .ok (.istore_n 2, 1) := by decide +kernel
theorem dX0_lineUp_9 : decode cX0_lineUp 9 = .ok (.iload_n 2, 1) := by decide +kernel
theorem dX0_lineUp_10 : decode cX0_lineUp 10 = .ok (.ifCond .lt 67, 3) := by decide +kernel
theorem dX0_lineUp_13 : decode cX0_lineUp 13 = .ok (.iload_n 1, 1) := by decide +kernel
theorem dX0_lineUp_14 : decode cX0_lineUp 14 = .ok (.istore_n 3, 1) := by decide +kernel
theorem dX0_lineUp_15 : decode cX0_lineUp 15 = .ok (.iload_n 3, 1) := by decide +kernel
theorem dX0_lineUp_16 : decode cX0_lineUp 16 = .ok (.ifCond .le 45, 3) := by decide +kernel
theorem dX0_lineUp_19 : decode cX0_lineUp 19 = .ok (.aload_n 0, 1) := by decide +kernel
theorem dX0_lineUp_20 : decode cX0_lineUp 20 = .ok (.getfield 15, 3) := by decide +kernel
theorem dX0_lineUp_23 : decode cX0_lineUp 23 = .ok (.aload_n 0, 1) := by decide +kernel
theorem dX0_lineUp_24 : decode cX0_lineUp 24 = .ok (.getfield 24, 3) := by decide +kernel
theorem dX0_lineUp_27 : decode cX0_lineUp 27 = .ok (.iload_n 3, 1) := by decide +kernel
theorem dX0_lineUp_28 : decode cX0_lineUp 28 = .ok (.iconst 1, 1) := by decide +kernel
theorem dX0_lineUp_29 : decode cX0_lineUp 29 = .ok (.isub, 1) := by decide +kernel
theorem dX0_lineUp_30 : decode cX0_lineUp 30 = .ok (.iaload, 1) := by decide +kernel
theorem dX0_lineUp_31 : decode cX0_lineUp 31 = .ok (.iaload, 1) := by decide +kernel
theorem dX0_lineUp_32 : decode cX0_lineUp 32 = .ok (.aload_n 0, 1) := by decide +kernel
theorem dX0_lineUp_33 : decode cX0_lineUp 33 = .ok (.getfield 15, 3) := by decide +kernel
theorem dX0_lineUp_36 : decode cX0_lineUp 36 = .ok (.iload_n 2, 1) := by decide +kernel
theorem dX0_lineUp_37 : decode cX0_lineUp 37 = .ok (.iaload, 1) := by decide +kernel
theorem dX0_lineUp_38 : decode cX0_lineUp 38 = .ok (.if_icmp .le 23, 3) := by decide +kernel
theorem dX0_lineUp_41 : decode cX0_lineUp 41 = .ok (.aload_n 0, 1) := by decide +kernel
theorem dX0_lineUp_42 : decode cX0_lineUp 42 = .ok (.getfield 24, 3) := by decide +kernel
theorem dX0_lineUp_45 : decode cX0_lineUp 45 = .ok (.iload_n 3, 1) := by decide +kernel
theorem dX0_lineUp_46 : decode cX0_lineUp 46 = .ok (.aload_n 0, 1) := by decide +kernel
theorem dX0_lineUp_47 : decode cX0_lineUp 47 = .ok (.getfield 24, 3) := by decide +kernel
theorem dX0_lineUp_50 : decode cX0_lineUp 50 = .ok (.iload_n 3, 1) := by decide +kernel
theorem dX0_lineUp_51 : decode cX0_lineUp 51 = .ok (.iconst 1, 1) := by decide +kernel
theorem dX0_lineUp_52 : decode cX0_lineUp 52 = .ok (.isub, 1) := by decide +kernel
theorem dX0_lineUp_53 : decode cX0_lineUp 53 = .ok (.iaload, 1) := by decide +kernel
theorem dX0_lineUp_54 : decode cX0_lineUp 54 = .ok (.iastore, 1) := by decide +kernel
theorem dX0_lineUp_55 : decode cX0_lineUp 55 = .ok (.iinc 3 (-1), 3) := by decide +kernel
theorem dX0_lineUp_58 : decode cX0_lineUp 58 = .ok (.goto (-43), 3) := by decide +kernel
theorem dX0_lineUp_61 : decode cX0_lineUp 61 = .ok (.aload_n 0, 1) := by decide +kernel
theorem dX0_lineUp_62 : decode cX0_lineUp 62 = .ok (.getfield 24, 3) := by decide +kernel
theorem dX0_lineUp_65 : decode cX0_lineUp 65 = .ok (.iload_n 3, 1) := by decide +kernel
theorem dX0_lineUp_66 : decode cX0_lineUp 66 = .ok (.iload_n 2, 1) := by decide +kernel
theorem dX0_lineUp_67 : decode cX0_lineUp 67 = .ok (.iastore, 1) := by decide +kernel
theorem dX0_lineUp_68 : decode cX0_lineUp 68 = .ok (.iinc 1 1, 3) := by decide +kernel
theorem dX0_lineUp_71 : decode cX0_lineUp 71 = .ok (.iinc 2 (-1), 3) := by decide +kernel
theorem dX0_lineUp_74 : decode cX0_lineUp 74 = .ok (.goto (-65), 3) := by decide +kernel
theorem dX0_lineUp_77 : decode cX0_lineUp 77 = .ok (.return_, 1) := by decide +kernel
theorem dX0_turnOf_0 : decode cX0_turnOf 0 = .ok (.iconst 0, 1) := by decide +kernel
theorem dX0_turnOf_1 : decode cX0_turnOf 1 = .ok (.istore_n 2, 1) := by decide +kernel
theorem dX0_turnOf_2 : decode cX0_turnOf 2 = .ok (.iload_n 2, 1) := by decide +kernel
theorem dX0_turnOf_3 : decode cX0_turnOf 3 = .ok (.aload_n 0, 1) := by decide +kernel
theorem dX0_turnOf_4 : decode cX0_turnOf 4 = .ok (.getfield 36, 3) := by decide +kernel
theorem dX0_turnOf_7 : decode cX0_turnOf 7 = .ok (.if_icmp .ge 21, 3) := by decide +kernel
theorem dX0_turnOf_10 : decode cX0_turnOf 10 = .ok (.aload_n 0, 1) := by decide +kernel
theorem dX0_turnOf_11 : decode cX0_turnOf 11 = .ok (.getfield 24, 3) := by decide +kernel
theorem dX0_turnOf_14 : decode cX0_turnOf 14 = .ok (.iload_n 2, 1) := by decide +kernel
theorem dX0_turnOf_15 : decode cX0_turnOf 15 = .ok (.iaload, 1) := by decide +kernel
theorem dX0_turnOf_16 : decode cX0_turnOf 16 = .ok (.iload_n 1, 1) := by decide +kernel
theorem dX0_turnOf_17 : decode cX0_turnOf 17 = .ok (.if_icmp .ne 5, 3) := by decide +kernel
theorem dX0_turnOf_20 : decode cX0_turnOf 20 = .ok (.iload_n 2, 1) := by decide +kernel
theorem dX0_turnOf_21 : decode cX0_turnOf 21 = .ok (.ireturn, 1) := by decide +kernel
theorem dX0_turnOf_22 : decode cX0_turnOf 22 = .ok (.iinc 2 1, 3) := by decide +kernel
theorem dX0_turnOf_25 : decode cX0_turnOf 25 = .ok (.goto (-23), 3) := by decide +kernel
theorem dX0_turnOf_28 : decode cX0_turnOf 28 = .ok (.iconst 0, 1) := by decide +kernel
theorem dX0_turnOf_29 : decode cX0_turnOf 29 = .ok (.ireturn, 1) := by decide +kernel
set_option maxRecDepth 20000 in
theorem ggX0_letDecide_X0_wouldGo : GoodIn wsX0_letDecide wsX0_wouldGo := goodIn_r _ [15, 16, 1, 17, 18, 19, 14, 20, 21, 22, 23, 24, 25, 26, 27, 28, 29, 30, 31, 32, 33, 34, 35, 36, 45, 46, 47, 48, 49, 50, 51, 52] (by decide +kernel) (by decide +kernel)
set_option maxRecDepth 20000 in
theorem gX0_letDecide_X0_wouldGo : GoodIn wsX0_letDecide (wsV RX0 62 RX0 yX0_wouldGo wsX0_wouldGo) := goodIn_app (goodIn_of _ (by decide +kernel)) ggX0_letDecide_X0_wouldGo
set_option maxRecDepth 20000 in
theorem ggX0_letDecide_X0_letTakePlacesBack : GoodIn wsX0_letDecide wsX0_letTakePlacesBack := goodIn_r _ [40, 2, 16, 10, 1, 33, 34, 35, 14, 36, 28, 29, 30, 31, 32, 45, 46, 47, 48, 49, 50, 51, 52] (by decide +kernel) (by decide +kernel)
set_option maxRecDepth 20000 in
theorem gX0_letDecide_X0_letTakePlacesBack : GoodIn wsX0_letDecide (wsV RX0 66 RX0 yX0_letTakePlacesBack wsX0_letTakePlacesBack) := goodIn_app (goodIn_of _ (by decide +kernel)) ggX0_letDecide_X0_letTakePlacesBack
set_option maxRecDepth 20000 in
theorem ggX0_letDecide_X0_serveRow : GoodIn wsX0_letDecide wsX0_serveRow := goodIn_r _ [44, 2, 32, 10, 33, 34, 35, 14, 36, 1, 45, 46, 47, 48, 49, 50, 51, 52] (by decide +kernel) (by decide +kernel)
set_option maxRecDepth 20000 in
theorem gX0_letDecide_X0_serveRow : GoodIn wsX0_letDecide (wsV RX0 69 RX0 yX0_serveRow wsX0_serveRow) := goodIn_app (goodIn_of _ (by decide +kernel)) ggX0_letDecide_X0_serveRow
theorem dX0_letDecide_0 : decode cX0_letDecide 0 = .ok (.aload_n 0, 1) := by decide +kernel
theorem dX0_letDecide_1 : decode cX0_letDecide 1 = .ok (.iconst 0, 1) := by decide +kernel
theorem dX0_letDecide_2 : decode cX0_letDecide 2 = .ok (.putfield 53, 3) := by decide +kernel
theorem dX0_letDecide_5 : decode cX0_letDecide 5 = .ok (.iconst 0, 1) := by decide +kernel
theorem dX0_letDecide_6 : decode cX0_letDecide 6 = .ok (.istore_n 1, 1) := by decide +kernel
theorem dX0_letDecide_7 : decode cX0_letDecide 7 = .ok (.iconst 0, 1) := by decide +kernel
theorem dX0_letDecide_8 : decode cX0_letDecide 8 = .ok (.istore_n 2, 1) := by decide +kernel
theorem dX0_letDecide_9 : decode cX0_letDecide 9 = .ok (.iload_n 2, 1) := by decide +kernel
theorem dX0_letDecide_10 : decode cX0_letDecide 10 = .ok (.aload_n 0, 1) := by decide +kernel
theorem dX0_letDecide_11 : decode cX0_letDecide 11 = .ok (.getfield 36, 3) := by decide +kernel
theorem dX0_letDecide_14 : decode cX0_letDecide 14 = .ok (.if_icmp .ge 68, 3) := by decide +kernel
theorem dX0_letDecide_17 : decode cX0_letDecide 17 = .ok (.aload_n 0, 1) := by decide +kernel
theorem dX0_letDecide_18 : decode cX0_letDecide 18 = .ok (.getfield 24, 3) := by decide +kernel
theorem dX0_letDecide_21 : decode cX0_letDecide 21 = .ok (.iload_n 2, 1) := by decide +kernel
theorem dX0_letDecide_22 : decode cX0_letDecide 22 = .ok (.iaload, 1) := by decide +kernel
theorem dX0_letDecide_23 : decode cX0_letDecide 23 = .ok (.istore_n 3, 1) := by decide +kernel
theorem dX0_letDecide_24 : decode cX0_letDecide 24 = .ok (.iload_n 1, 1) := by decide +kernel
theorem dX0_letDecide_25 : decode cX0_letDecide 25 = .ok (.aload_n 0, 1) := by decide +kernel
theorem dX0_letDecide_26 : decode cX0_letDecide 26 = .ok (.getfield 15, 3) := by decide +kernel
theorem dX0_letDecide_29 : decode cX0_letDecide 29 = .ok (.iload_n 3, 1) := by decide +kernel
theorem dX0_letDecide_30 : decode cX0_letDecide 30 = .ok (.iaload, 1) := by decide +kernel
theorem dX0_letDecide_31 : decode cX0_letDecide 31 = .ok (.invokestatic 56, 3) := by decide +kernel
theorem dX0_letDecide_34 : decode cX0_letDecide 34 = .ok (.aload_n 0, 1) := by decide +kernel
theorem dX0_letDecide_35 : decode cX0_letDecide 35 = .ok (.getfield 21, 3) := by decide +kernel
theorem dX0_letDecide_38 : decode cX0_letDecide 38 = .ok (.iload_n 3, 1) := by decide +kernel
theorem dX0_letDecide_39 : decode cX0_letDecide 39 = .ok (.iaload, 1) := by decide +kernel
theorem dX0_letDecide_40 : decode cX0_letDecide 40 = .ok (.iadd, 1) := by decide +kernel
theorem dX0_letDecide_41 : decode cX0_letDecide 41 = .ok (.istore 4, 2) := by decide +kernel
theorem dX0_letDecide_43 : decode cX0_letDecide 43 = .ok (.aload_n 0, 1) := by decide +kernel
theorem dX0_letDecide_44 : decode cX0_letDecide 44 = .ok (.iload_n 3, 1) := by decide +kernel
theorem dX0_letDecide_45 : decode cX0_letDecide 45 = .ok (.iload 4, 2) := by decide +kernel
theorem dX0_letDecide_47 : decode cX0_letDecide 47 = .ok (.invokevirtual 62, 3) := by decide +kernel
theorem dX0_letDecide_50 : decode cX0_letDecide 50 = .ok (.ifCond .eq 26, 3) := by decide +kernel
theorem dX0_letDecide_53 : decode cX0_letDecide 53 = .ok (.aload_n 0, 1) := by decide +kernel
theorem dX0_letDecide_54 : decode cX0_letDecide 54 = .ok (.dup, 1) := by decide +kernel
theorem dX0_letDecide_55 : decode cX0_letDecide 55 = .ok (.getfield 53, 3) := by decide +kernel
theorem dX0_letDecide_58 : decode cX0_letDecide 58 = .ok (.iconst 1, 1) := by decide +kernel
theorem dX0_letDecide_59 : decode cX0_letDecide 59 = .ok (.iload_n 3, 1) := by decide +kernel
theorem dX0_letDecide_60 : decode cX0_letDecide 60 = .ok (.ishl, 1) := by decide +kernel
theorem dX0_letDecide_61 : decode cX0_letDecide 61 = .ok (.ior, 1) := by decide +kernel
theorem dX0_letDecide_62 : decode cX0_letDecide 62 = .ok (.putfield 53, 3) := by decide +kernel
theorem dX0_letDecide_65 : decode cX0_letDecide 65 = .ok (.aload_n 0, 1) := by decide +kernel
theorem dX0_letDecide_66 : decode cX0_letDecide 66 = .ok (.getfield 27, 3) := by decide +kernel
theorem dX0_letDecide_69 : decode cX0_letDecide 69 = .ok (.iload_n 3, 1) := by decide +kernel
theorem dX0_letDecide_70 : decode cX0_letDecide 70 = .ok (.iload 4, 2) := by decide +kernel
theorem dX0_letDecide_72 : decode cX0_letDecide 72 = .ok (.iastore, 1) := by decide +kernel
theorem dX0_letDecide_73 : decode cX0_letDecide 73 = .ok (.iload 4, 2) := by decide +kernel
theorem dX0_letDecide_75 : decode cX0_letDecide 75 = .ok (.istore_n 1, 1) := by decide +kernel
theorem dX0_letDecide_76 : decode cX0_letDecide 76 = .ok (.iinc 2 1, 3) := by decide +kernel
theorem dX0_letDecide_79 : decode cX0_letDecide 79 = .ok (.goto (-70), 3) := by decide +kernel
theorem dX0_letDecide_82 : decode cX0_letDecide 82 = .ok (.aload_n 0, 1) := by decide +kernel
theorem dX0_letDecide_83 : decode cX0_letDecide 83 = .ok (.invokevirtual 66, 3) := by decide +kernel
theorem dX0_letDecide_86 : decode cX0_letDecide 86 = .ok (.aload_n 0, 1) := by decide +kernel
theorem dX0_letDecide_87 : decode cX0_letDecide 87 = .ok (.invokevirtual 69, 3) := by decide +kernel
theorem dX0_letDecide_90 : decode cX0_letDecide 90 = .ok (.return_, 1) := by decide +kernel
set_option maxRecDepth 20000 in
theorem ggX0_wouldGo_X0_stayingAheadOf : GoodIn wsX0_wouldGo wsX0_stayingAheadOf := goodIn_r _ [7, 2, 8, 9, 10, 11, 12, 13, 14, 24, 25, 26, 27, 28, 29, 30, 31] (by decide +kernel) (by decide +kernel)
set_option maxRecDepth 20000 in
theorem gX0_wouldGo_X0_stayingAheadOf : GoodIn wsX0_wouldGo (wsV RX0 72 RX0 yX0_stayingAheadOf wsX0_stayingAheadOf) := goodIn_app (goodIn_of _ (by decide +kernel)) ggX0_wouldGo_X0_stayingAheadOf
set_option maxRecDepth 20000 in
theorem ggX0_wouldGo_J6_bitCount_0f7a4 : GoodIn wsX0_wouldGo wsJ6_bitCount_0f7a4 := goodIn_r _ [11, 12, 13, 14] (by decide +kernel) (by decide +kernel)
set_option maxRecDepth 20000 in
theorem gX0_wouldGo_J6_bitCount_0f7a4 : GoodIn wsX0_wouldGo (va_wsS RX0 75 yJ6_bitCount_0f7a4 wsJ6_bitCount_0f7a4) := goodIn_app (goodIn_of _ (by decide +kernel)) ggX0_wouldGo_J6_bitCount_0f7a4
set_option maxRecDepth 20000 in
theorem ggX0_wouldGo_X0_readyInRow : GoodIn wsX0_wouldGo wsX0_readyInRow := goodIn_r _ [18, 19, 20, 21, 22, 6, 23, 2, 24, 25, 26, 27, 28, 29, 30, 31] (by decide +kernel) (by decide +kernel)
set_option maxRecDepth 20000 in
theorem gX0_wouldGo_X0_readyInRow : GoodIn wsX0_wouldGo (wsV RX0 80 RX0 yX0_readyInRow wsX0_readyInRow) := goodIn_app (goodIn_of _ (by decide +kernel)) ggX0_wouldGo_X0_readyInRow
theorem dX0_wouldGo_0 : decode cX0_wouldGo 0 = .ok (.aload_n 0, 1) := by decide +kernel
theorem dX0_wouldGo_1 : decode cX0_wouldGo 1 = .ok (.getfield 9, 3) := by decide +kernel
theorem dX0_wouldGo_4 : decode cX0_wouldGo 4 = .ok (.iload_n 1, 1) := by decide +kernel
theorem dX0_wouldGo_5 : decode cX0_wouldGo 5 = .ok (.iaload, 1) := by decide +kernel
theorem dX0_wouldGo_6 : decode cX0_wouldGo 6 = .ok (.tableswitch 62 1 3 #[26, 47, 47], 26) := by decide +kernel
theorem dX0_wouldGo_32 : decode cX0_wouldGo 32 = .ok (.aload_n 0, 1) := by decide +kernel
theorem dX0_wouldGo_33 : decode cX0_wouldGo 33 = .ok (.iload_n 1, 1) := by decide +kernel
theorem dX0_wouldGo_34 : decode cX0_wouldGo 34 = .ok (.invokevirtual 72, 3) := by decide +kernel
theorem dX0_wouldGo_37 : decode cX0_wouldGo 37 = .ok (.aload_n 0, 1) := by decide +kernel
theorem dX0_wouldGo_38 : decode cX0_wouldGo 38 = .ok (.getfield 53, 3) := by decide +kernel
theorem dX0_wouldGo_41 : decode cX0_wouldGo 41 = .ok (.invokestatic 75, 3) := by decide +kernel
theorem dX0_wouldGo_44 : decode cX0_wouldGo 44 = .ok (.if_icmp .le 7, 3) := by decide +kernel
theorem dX0_wouldGo_47 : decode cX0_wouldGo 47 = .ok (.iconst 1, 1) := by decide +kernel
theorem dX0_wouldGo_48 : decode cX0_wouldGo 48 = .ok (.goto 4, 3) := by decide +kernel
theorem dX0_wouldGo_51 : decode cX0_wouldGo 51 = .ok (.iconst 0, 1) := by decide +kernel
theorem dX0_wouldGo_52 : decode cX0_wouldGo 52 = .ok (.ireturn, 1) := by decide +kernel
theorem dX0_wouldGo_53 : decode cX0_wouldGo 53 = .ok (.iload_n 2, 1) := by decide +kernel
theorem dX0_wouldGo_54 : decode cX0_wouldGo 54 = .ok (.aload_n 0, 1) := by decide +kernel
theorem dX0_wouldGo_55 : decode cX0_wouldGo 55 = .ok (.iload_n 1, 1) := by decide +kernel
theorem dX0_wouldGo_56 : decode cX0_wouldGo 56 = .ok (.invokevirtual 80, 3) := by decide +kernel
theorem dX0_wouldGo_59 : decode cX0_wouldGo 59 = .ok (.if_icmp .ge 7, 3) := by decide +kernel
theorem dX0_wouldGo_62 : decode cX0_wouldGo 62 = .ok (.iconst 1, 1) := by decide +kernel
theorem dX0_wouldGo_63 : decode cX0_wouldGo 63 = .ok (.goto 4, 3) := by decide +kernel
theorem dX0_wouldGo_66 : decode cX0_wouldGo 66 = .ok (.iconst 0, 1) := by decide +kernel
theorem dX0_wouldGo_67 : decode cX0_wouldGo 67 = .ok (.ireturn, 1) := by decide +kernel
theorem dX0_wouldGo_68 : decode cX0_wouldGo 68 = .ok (.iconst 0, 1) := by decide +kernel
theorem dX0_wouldGo_69 : decode cX0_wouldGo 69 = .ok (.ireturn, 1) := by decide +kernel
set_option maxRecDepth 20000 in
theorem ggX0_stayingAheadOf_J6_bitCount_0f7a4 : GoodIn wsX0_stayingAheadOf wsJ6_bitCount_0f7a4 := goodIn_r _ [5, 6, 7, 8] (by decide +kernel) (by decide +kernel)
set_option maxRecDepth 20000 in
theorem gX0_stayingAheadOf_J6_bitCount_0f7a4 : GoodIn wsX0_stayingAheadOf (va_wsS RX0 75 yJ6_bitCount_0f7a4 wsJ6_bitCount_0f7a4) := goodIn_app (goodIn_of _ (by decide +kernel)) ggX0_stayingAheadOf_J6_bitCount_0f7a4
theorem dX0_stayingAheadOf_0 : decode cX0_stayingAheadOf 0 = .ok (.iload_n 1, 1) := by decide +kernel
theorem dX0_stayingAheadOf_1 : decode cX0_stayingAheadOf 1 = .ok (.aload_n 0, 1) := by decide +kernel
theorem dX0_stayingAheadOf_2 : decode cX0_stayingAheadOf 2 = .ok (.getfield 53, 3) := by decide +kernel
theorem dX0_stayingAheadOf_5 : decode cX0_stayingAheadOf 5 = .ok (.iconst 1, 1) := by decide +kernel
theorem dX0_stayingAheadOf_6 : decode cX0_stayingAheadOf 6 = .ok (.iload_n 1, 1) := by decide +kernel
theorem dX0_stayingAheadOf_7 : decode cX0_stayingAheadOf 7 = .ok (.ishl, 1) := by decide +kernel
theorem dX0_stayingAheadOf_8 : decode cX0_stayingAheadOf 8 = .ok (.iconst 1, 1) := by decide +kernel
theorem dX0_stayingAheadOf_9 : decode cX0_stayingAheadOf 9 = .ok (.isub, 1) := by decide +kernel
theorem dX0_stayingAheadOf_10 : decode cX0_stayingAheadOf 10 = .ok (.iand, 1) := by decide +kernel
theorem dX0_stayingAheadOf_11 : decode cX0_stayingAheadOf 11 = .ok (.invokestatic 75, 3) := by decide +kernel
theorem dX0_stayingAheadOf_14 : decode cX0_stayingAheadOf 14 = .ok (.isub, 1) := by decide +kernel
theorem dX0_stayingAheadOf_15 : decode cX0_stayingAheadOf 15 = .ok (.ireturn, 1) := by decide +kernel
set_option maxRecDepth 20000 in
theorem ggX0_readyInRow_X0_isAway : GoodIn wsX0_readyInRow wsX0_isAway := goodIn_r _ [6, 7, 8, 9, 10, 11, 12, 13, 14, 15] (by decide +kernel) (by decide +kernel)
set_option maxRecDepth 20000 in
theorem gX0_readyInRow_X0_isAway : GoodIn wsX0_readyInRow (wsV RX0 83 RX0 yX0_isAway wsX0_isAway) := goodIn_app (goodIn_of _ (by decide +kernel)) ggX0_readyInRow_X0_isAway
theorem dX0_readyInRow_0 : decode cX0_readyInRow 0 = .ok (.aload_n 0, 1) := by decide +kernel
theorem dX0_readyInRow_1 : decode cX0_readyInRow 1 = .ok (.getfield 18, 3) := by decide +kernel
theorem dX0_readyInRow_4 : decode cX0_readyInRow 4 = .ok (.iload_n 1, 1) := by decide +kernel
theorem dX0_readyInRow_5 : decode cX0_readyInRow 5 = .ok (.iaload, 1) := by decide +kernel
theorem dX0_readyInRow_6 : decode cX0_readyInRow 6 = .ok (.istore_n 2, 1) := by decide +kernel
theorem dX0_readyInRow_7 : decode cX0_readyInRow 7 = .ok (.iconst 0, 1) := by decide +kernel
theorem dX0_readyInRow_8 : decode cX0_readyInRow 8 = .ok (.istore_n 3, 1) := by decide +kernel
theorem dX0_readyInRow_9 : decode cX0_readyInRow 9 = .ok (.iload_n 3, 1) := by decide +kernel
theorem dX0_readyInRow_10 : decode cX0_readyInRow 10 = .ok (.iload_n 1, 1) := by decide +kernel
theorem dX0_readyInRow_11 : decode cX0_readyInRow 11 = .ok (.if_icmp .ge 26, 3) := by decide +kernel
theorem dX0_readyInRow_14 : decode cX0_readyInRow 14 = .ok (.aload_n 0, 1) := by decide +kernel
theorem dX0_readyInRow_15 : decode cX0_readyInRow 15 = .ok (.iload_n 3, 1) := by decide +kernel
theorem dX0_readyInRow_16 : decode cX0_readyInRow 16 = .ok (.invokevirtual 83, 3) := by decide +kernel
theorem dX0_readyInRow_19 : decode cX0_readyInRow 19 = .ok (.ifCond .ne 12, 3) := by decide +kernel
theorem dX0_readyInRow_22 : decode cX0_readyInRow 22 = .ok (.iload_n 2, 1) := by decide +kernel
theorem dX0_readyInRow_23 : decode cX0_readyInRow 23 = .ok (.aload_n 0, 1) := by decide +kernel
theorem dX0_readyInRow_24 : decode cX0_readyInRow 24 = .ok (.getfield 18, 3) := by decide +kernel
theorem dX0_readyInRow_27 : decode cX0_readyInRow 27 = .ok (.iload_n 3, 1) := by decide +kernel
theorem dX0_readyInRow_28 : decode cX0_readyInRow 28 = .ok (.iaload, 1) := by decide +kernel
theorem dX0_readyInRow_29 : decode cX0_readyInRow 29 = .ok (.iadd, 1) := by decide +kernel
theorem dX0_readyInRow_30 : decode cX0_readyInRow 30 = .ok (.istore_n 2, 1) := by decide +kernel
theorem dX0_readyInRow_31 : decode cX0_readyInRow 31 = .ok (.iinc 3 1, 3) := by decide +kernel
theorem dX0_readyInRow_34 : decode cX0_readyInRow 34 = .ok (.goto (-25), 3) := by decide +kernel
theorem dX0_readyInRow_37 : decode cX0_readyInRow 37 = .ok (.iload_n 2, 1) := by decide +kernel
theorem dX0_readyInRow_38 : decode cX0_readyInRow 38 = .ok (.ireturn, 1) := by decide +kernel
set_option maxRecDepth 20000 in
theorem ggX0_letTakePlacesBack_X0_isAway : GoodIn wsX0_letTakePlacesBack wsX0_isAway := goodIn_r _ [9, 4, 15, 16, 17, 18, 19, 20, 21, 22] (by decide +kernel) (by decide +kernel)
set_option maxRecDepth 20000 in
theorem gX0_letTakePlacesBack_X0_isAway : GoodIn wsX0_letTakePlacesBack (wsV RX0 83 RX0 yX0_isAway wsX0_isAway) := goodIn_app (goodIn_of _ (by decide +kernel)) ggX0_letTakePlacesBack_X0_isAway
set_option maxRecDepth 20000 in
theorem ggX0_letTakePlacesBack_X0_readyInRow : GoodIn wsX0_letTakePlacesBack wsX0_readyInRow := goodIn_r _ [13, 14, 5, 6, 7, 8, 9, 4, 15, 16, 17, 18, 19, 20, 21, 22] (by decide +kernel) (by decide +kernel)
set_option maxRecDepth 20000 in
theorem gX0_letTakePlacesBack_X0_readyInRow : GoodIn wsX0_letTakePlacesBack (wsV RX0 80 RX0 yX0_readyInRow wsX0_readyInRow) := goodIn_app (goodIn_of _ (by decide +kernel)) ggX0_letTakePlacesBack_X0_readyInRow
theorem dX0_letTakePlacesBack_0 : decode cX0_letTakePlacesBack 0 = .ok (.iconst 0, 1) := by decide +kernel
theorem dX0_letTakePlacesBack_1 : decode cX0_letTakePlacesBack 1 = .ok (.istore_n 1, 1) := by decide +kernel
theorem dX0_letTakePlacesBack_2 : decode cX0_letTakePlacesBack 2 = .ok (.iload_n 1, 1) := by decide +kernel
theorem dX0_letTakePlacesBack_3 : decode cX0_letTakePlacesBack 3 = .ok (.aload_n 0, 1) := by decide +kernel
theorem dX0_letTakePlacesBack_4 : decode cX0_letTakePlacesBack 4 = .ok (.getfield 36, 3) := by decide +kernel
theorem dX0_letTakePlacesBack_7 : decode cX0_letTakePlacesBack 7 = .ok (.if_icmp .ge 55, 3) := by decide +kernel
theorem dX0_letTakePlacesBack_10 : decode cX0_letTakePlacesBack 10 = .ok (.aload_n 0, 1) := by decide +kernel
theorem dX0_letTakePlacesBack_11 : decode cX0_letTakePlacesBack 11 = .ok (.getfield 9, 3) := by decide +kernel
theorem dX0_letTakePlacesBack_14 : decode cX0_letTakePlacesBack 14 = .ok (.iload_n 1, 1) := by decide +kernel
theorem dX0_letTakePlacesBack_15 : decode cX0_letTakePlacesBack 15 = .ok (.iaload, 1) := by decide +kernel
theorem dX0_letTakePlacesBack_16 : decode cX0_letTakePlacesBack 16 = .ok (.iconst 3, 1) := by decide +kernel
theorem dX0_letTakePlacesBack_17 : decode cX0_letTakePlacesBack 17 = .ok (.if_icmp .ne 39, 3) := by decide +kernel
theorem dX0_letTakePlacesBack_20 : decode cX0_letTakePlacesBack 20 = .ok (.aload_n 0, 1) := by decide +kernel
theorem dX0_letTakePlacesBack_21 : decode cX0_letTakePlacesBack 21 = .ok (.iload_n 1, 1) := by decide +kernel
theorem dX0_letTakePlacesBack_22 : decode cX0_letTakePlacesBack 22 = .ok (.invokevirtual 83, 3) := by decide +kernel
theorem dX0_letTakePlacesBack_25 : decode cX0_letTakePlacesBack 25 = .ok (.ifCond .eq 31, 3) := by decide +kernel
theorem dX0_letTakePlacesBack_28 : decode cX0_letTakePlacesBack 28 = .ok (.aload_n 0, 1) := by decide +kernel
theorem dX0_letTakePlacesBack_29 : decode cX0_letTakePlacesBack 29 = .ok (.iload_n 1, 1) := by decide +kernel
theorem dX0_letTakePlacesBack_30 : decode cX0_letTakePlacesBack 30 = .ok (.invokevirtual 80, 3) := by decide +kernel
theorem dX0_letTakePlacesBack_33 : decode cX0_letTakePlacesBack 33 = .ok (.aload_n 0, 1) := by decide +kernel
theorem dX0_letTakePlacesBack_34 : decode cX0_letTakePlacesBack 34 = .ok (.getfield 27, 3) := by decide +kernel
theorem dX0_letTakePlacesBack_37 : decode cX0_letTakePlacesBack 37 = .ok (.iload_n 1, 1) := by decide +kernel
theorem dX0_letTakePlacesBack_38 : decode cX0_letTakePlacesBack 38 = .ok (.iaload, 1) := by decide +kernel
theorem dX0_letTakePlacesBack_39 : decode cX0_letTakePlacesBack 39 = .ok (.if_icmp .ge 17, 3) := by decide +kernel
theorem dX0_letTakePlacesBack_42 : decode cX0_letTakePlacesBack 42 = .ok (.aload_n 0, 1) := by decide +kernel
theorem dX0_letTakePlacesBack_43 : decode cX0_letTakePlacesBack 43 = .ok (.dup, 1) := by decide +kernel
theorem dX0_letTakePlacesBack_44 : decode cX0_letTakePlacesBack 44 = .ok (.getfield 53, 3) := by decide +kernel
theorem dX0_letTakePlacesBack_47 : decode cX0_letTakePlacesBack 47 = .ok (.iconst 1, 1) := by decide +kernel
theorem dX0_letTakePlacesBack_48 : decode cX0_letTakePlacesBack 48 = .ok (.iload_n 1, 1) := by decide +kernel
theorem dX0_letTakePlacesBack_49 : decode cX0_letTakePlacesBack 49 = .ok (.ishl, 1) := by decide +kernel
theorem dX0_letTakePlacesBack_50 : decode cX0_letTakePlacesBack 50 = .ok (.iconst (-1), 1) := by decide +kernel
theorem dX0_letTakePlacesBack_51 : decode cX0_letTakePlacesBack 51 = .ok (.ixor, 1) := by decide +kernel
theorem dX0_letTakePlacesBack_52 : decode cX0_letTakePlacesBack 52 = .ok (.iand, 1) := by decide +kernel
theorem dX0_letTakePlacesBack_53 : decode cX0_letTakePlacesBack 53 = .ok (.putfield 53, 3) := by decide +kernel
theorem dX0_letTakePlacesBack_56 : decode cX0_letTakePlacesBack 56 = .ok (.iinc 1 1, 3) := by decide +kernel
theorem dX0_letTakePlacesBack_59 : decode cX0_letTakePlacesBack 59 = .ok (.goto (-57), 3) := by decide +kernel
theorem dX0_letTakePlacesBack_62 : decode cX0_letTakePlacesBack 62 = .ok (.return_, 1) := by decide +kernel
set_option maxRecDepth 20000 in
theorem ggX0_send_X0_isAway : GoodIn wsX0_send wsX0_isAway := goodIn_r _ [15, 1, 21, 22, 23, 24, 25, 26, 27, 28] (by decide +kernel) (by decide +kernel)
set_option maxRecDepth 20000 in
theorem gX0_send_X0_isAway : GoodIn wsX0_send (wsV RX0 83 RX0 yX0_isAway wsX0_isAway) := goodIn_app (goodIn_of _ (by decide +kernel)) ggX0_send_X0_isAway
set_option maxRecDepth 20000 in
theorem ggX0_send_X0_serveRow : GoodIn wsX0_send wsX0_serveRow := goodIn_r _ [19, 2, 20, 10, 11, 12, 13, 14, 15, 1, 21, 22, 23, 24, 25, 26, 27, 28] (by decide +kernel) (by decide +kernel)
set_option maxRecDepth 20000 in
theorem gX0_send_X0_serveRow : GoodIn wsX0_send (wsV RX0 69 RX0 yX0_serveRow wsX0_serveRow) := goodIn_app (goodIn_of _ (by decide +kernel)) ggX0_send_X0_serveRow
theorem dX0_send_0 : decode cX0_send 0 = .ok (.aload_n 0, 1) := by decide +kernel
theorem dX0_send_1 : decode cX0_send 1 = .ok (.iload_n 1, 1) := by decide +kernel
theorem dX0_send_2 : decode cX0_send 2 = .ok (.putfield 53, 3) := by decide +kernel
theorem dX0_send_5 : decode cX0_send 5 = .ok (.iconst 0, 1) := by decide +kernel
theorem dX0_send_6 : decode cX0_send 6 = .ok (.istore_n 2, 1) := by decide +kernel
theorem dX0_send_7 : decode cX0_send 7 = .ok (.iconst 0, 1) := by decide +kernel
theorem dX0_send_8 : decode cX0_send 8 = .ok (.istore_n 3, 1) := by decide +kernel
theorem dX0_send_9 : decode cX0_send 9 = .ok (.iload_n 3, 1) := by decide +kernel
theorem dX0_send_10 : decode cX0_send 10 = .ok (.aload_n 0, 1) := by decide +kernel
theorem dX0_send_11 : decode cX0_send 11 = .ok (.getfield 36, 3) := by decide +kernel
theorem dX0_send_14 : decode cX0_send 14 = .ok (.if_icmp .ge 54, 3) := by decide +kernel
theorem dX0_send_17 : decode cX0_send 17 = .ok (.aload_n 0, 1) := by decide +kernel
theorem dX0_send_18 : decode cX0_send 18 = .ok (.getfield 24, 3) := by decide +kernel
theorem dX0_send_21 : decode cX0_send 21 = .ok (.iload_n 3, 1) := by decide +kernel
theorem dX0_send_22 : decode cX0_send 22 = .ok (.iaload, 1) := by decide +kernel
theorem dX0_send_23 : decode cX0_send 23 = .ok (.istore 4, 2) := by decide +kernel
theorem dX0_send_25 : decode cX0_send 25 = .ok (.aload_n 0, 1) := by decide +kernel
theorem dX0_send_26 : decode cX0_send 26 = .ok (.iload 4, 2) := by decide +kernel
theorem dX0_send_28 : decode cX0_send 28 = .ok (.invokevirtual 83, 3) := by decide +kernel
theorem dX0_send_31 : decode cX0_send 31 = .ok (.ifCond .eq 31, 3) := by decide +kernel
theorem dX0_send_34 : decode cX0_send 34 = .ok (.iload_n 2, 1) := by decide +kernel
theorem dX0_send_35 : decode cX0_send 35 = .ok (.aload_n 0, 1) := by decide +kernel
theorem dX0_send_36 : decode cX0_send 36 = .ok (.getfield 15, 3) := by decide +kernel
theorem dX0_send_39 : decode cX0_send 39 = .ok (.iload 4, 2) := by decide +kernel
theorem dX0_send_41 : decode cX0_send 41 = .ok (.iaload, 1) := by decide +kernel
theorem dX0_send_42 : decode cX0_send 42 = .ok (.invokestatic 56, 3) := by decide +kernel
theorem dX0_send_45 : decode cX0_send 45 = .ok (.aload_n 0, 1) := by decide +kernel
theorem dX0_send_46 : decode cX0_send 46 = .ok (.getfield 21, 3) := by decide +kernel
theorem dX0_send_49 : decode cX0_send 49 = .ok (.iload 4, 2) := by decide +kernel
theorem dX0_send_51 : decode cX0_send 51 = .ok (.iaload, 1) := by decide +kernel
theorem dX0_send_52 : decode cX0_send 52 = .ok (.iadd, 1) := by decide +kernel
theorem dX0_send_53 : decode cX0_send 53 = .ok (.istore_n 2, 1) := by decide +kernel
theorem dX0_send_54 : decode cX0_send 54 = .ok (.aload_n 0, 1) := by decide +kernel
theorem dX0_send_55 : decode cX0_send 55 = .ok (.getfield 27, 3) := by decide +kernel
theorem dX0_send_58 : decode cX0_send 58 = .ok (.iload 4, 2) := by decide +kernel
theorem dX0_send_60 : decode cX0_send 60 = .ok (.iload_n 2, 1) := by decide +kernel
theorem dX0_send_61 : decode cX0_send 61 = .ok (.iastore, 1) := by decide +kernel
theorem dX0_send_62 : decode cX0_send 62 = .ok (.iinc 3 1, 3) := by decide +kernel
theorem dX0_send_65 : decode cX0_send 65 = .ok (.goto (-56), 3) := by decide +kernel
theorem dX0_send_68 : decode cX0_send 68 = .ok (.aload_n 0, 1) := by decide +kernel
theorem dX0_send_69 : decode cX0_send 69 = .ok (.invokevirtual 69, 3) := by decide +kernel
theorem dX0_send_72 : decode cX0_send 72 = .ok (.return_, 1) := by decide +kernel
set_option maxRecDepth 20000 in
theorem ggX0_serveRow_X0_isAway : GoodIn wsX0_serveRow wsX0_isAway := goodIn_r _ [8, 9, 10, 11, 12, 13, 14, 15, 16, 17] (by decide +kernel) (by decide +kernel)
set_option maxRecDepth 20000 in
theorem gX0_serveRow_X0_isAway : GoodIn wsX0_serveRow (wsV RX0 83 RX0 yX0_isAway wsX0_isAway) := goodIn_app (goodIn_of _ (by decide +kernel)) ggX0_serveRow_X0_isAway
theorem dX0_serveRow_0 : decode cX0_serveRow 0 = .ok (.iconst 0, 1) := by decide +kernel
theorem dX0_serveRow_1 : decode cX0_serveRow 1 = .ok (.istore_n 1, 1) := by decide +kernel
theorem dX0_serveRow_2 : decode cX0_serveRow 2 = .ok (.iconst 0, 1) := by decide +kernel
theorem dX0_serveRow_3 : decode cX0_serveRow 3 = .ok (.istore_n 2, 1) := by decide +kernel
theorem dX0_serveRow_4 : decode cX0_serveRow 4 = .ok (.iload_n 2, 1) := by decide +kernel
theorem dX0_serveRow_5 : decode cX0_serveRow 5 = .ok (.aload_n 0, 1) := by decide +kernel
theorem dX0_serveRow_6 : decode cX0_serveRow 6 = .ok (.getfield 36, 3) := by decide +kernel
theorem dX0_serveRow_9 : decode cX0_serveRow 9 = .ok (.if_icmp .ge 33, 3) := by decide +kernel
theorem dX0_serveRow_12 : decode cX0_serveRow 12 = .ok (.aload_n 0, 1) := by decide +kernel
theorem dX0_serveRow_13 : decode cX0_serveRow 13 = .ok (.iload_n 2, 1) := by decide +kernel
theorem dX0_serveRow_14 : decode cX0_serveRow 14 = .ok (.invokevirtual 83, 3) := by decide +kernel
theorem dX0_serveRow_17 : decode cX0_serveRow 17 = .ok (.ifCond .ne 19, 3) := by decide +kernel
theorem dX0_serveRow_20 : decode cX0_serveRow 20 = .ok (.iload_n 1, 1) := by decide +kernel
theorem dX0_serveRow_21 : decode cX0_serveRow 21 = .ok (.aload_n 0, 1) := by decide +kernel
theorem dX0_serveRow_22 : decode cX0_serveRow 22 = .ok (.getfield 18, 3) := by decide +kernel
theorem dX0_serveRow_25 : decode cX0_serveRow 25 = .ok (.iload_n 2, 1) := by decide +kernel
theorem dX0_serveRow_26 : decode cX0_serveRow 26 = .ok (.iaload, 1) := by decide +kernel
theorem dX0_serveRow_27 : decode cX0_serveRow 27 = .ok (.iadd, 1) := by decide +kernel
theorem dX0_serveRow_28 : decode cX0_serveRow 28 = .ok (.istore_n 1, 1) := by decide +kernel
theorem dX0_serveRow_29 : decode cX0_serveRow 29 = .ok (.aload_n 0, 1) := by decide +kernel
theorem dX0_serveRow_30 : decode cX0_serveRow 30 = .ok (.getfield 27, 3) := by decide +kernel
theorem dX0_serveRow_33 : decode cX0_serveRow 33 = .ok (.iload_n 2, 1) := by decide +kernel
theorem dX0_serveRow_34 : decode cX0_serveRow 34 = .ok (.iload_n 1, 1) := by decide +kernel
theorem dX0_serveRow_35 : decode cX0_serveRow 35 = .ok (.iastore, 1) := by decide +kernel
theorem dX0_serveRow_36 : decode cX0_serveRow 36 = .ok (.iinc 2 1, 3) := by decide +kernel
theorem dX0_serveRow_39 : decode cX0_serveRow 39 = .ok (.goto (-35), 3) := by decide +kernel
theorem dX0_serveRow_42 : decode cX0_serveRow 42 = .ok (.return_, 1) := by decide +kernel
theorem dX0_shareOneRow_0 : decode cX0_shareOneRow 0 = .ok (.iconst 0, 1) := by decide +kernel
theorem dX0_shareOneRow_1 : decode cX0_shareOneRow 1 = .ok (.istore_n 1, 1) := by decide +kernel
theorem dX0_shareOneRow_2 : decode cX0_shareOneRow 2 = .ok (.iconst 0, 1) := by decide +kernel
theorem dX0_shareOneRow_3 : decode cX0_shareOneRow 3 = .ok (.istore_n 2, 1) := by decide +kernel
theorem dX0_shareOneRow_4 : decode cX0_shareOneRow 4 = .ok (.iconst 0, 1) := by decide +kernel
theorem dX0_shareOneRow_5 : decode cX0_shareOneRow 5 = .ok (.istore_n 3, 1) := by decide +kernel
theorem dX0_shareOneRow_6 : decode cX0_shareOneRow 6 = .ok (.iload_n 3, 1) := by decide +kernel
theorem dX0_shareOneRow_7 : decode cX0_shareOneRow 7 = .ok (.aload_n 0, 1) := by decide +kernel
theorem dX0_shareOneRow_8 : decode cX0_shareOneRow 8 = .ok (.getfield 36, 3) := by decide +kernel
theorem dX0_shareOneRow_11 : decode cX0_shareOneRow 11 = .ok (.if_icmp .ge 49, 3) := by decide +kernel
theorem dX0_shareOneRow_14 : decode cX0_shareOneRow 14 = .ok (.iload_n 1, 1) := by decide +kernel
theorem dX0_shareOneRow_15 : decode cX0_shareOneRow 15 = .ok (.iload_n 2, 1) := by decide +kernel
theorem dX0_shareOneRow_16 : decode cX0_shareOneRow 16 = .ok (.if_icmp .gt 22, 3) := by decide +kernel
theorem dX0_shareOneRow_19 : decode cX0_shareOneRow 19 = .ok (.iload_n 1, 1) := by decide +kernel
theorem dX0_shareOneRow_20 : decode cX0_shareOneRow 20 = .ok (.aload_n 0, 1) := by decide +kernel
theorem dX0_shareOneRow_21 : decode cX0_shareOneRow 21 = .ok (.getfield 18, 3) := by decide +kernel
theorem dX0_shareOneRow_24 : decode cX0_shareOneRow 24 = .ok (.iload_n 3, 1) := by decide +kernel
theorem dX0_shareOneRow_25 : decode cX0_shareOneRow 25 = .ok (.iaload, 1) := by decide +kernel
theorem dX0_shareOneRow_26 : decode cX0_shareOneRow 26 = .ok (.iadd, 1) := by decide +kernel
theorem dX0_shareOneRow_27 : decode cX0_shareOneRow 27 = .ok (.istore_n 1, 1) := by decide +kernel
theorem dX0_shareOneRow_28 : decode cX0_shareOneRow 28 = .ok (.aload_n 0, 1) := by decide +kernel
theorem dX0_shareOneRow_29 : decode cX0_shareOneRow 29 = .ok (.getfield 27, 3) := by decide +kernel
theorem dX0_shareOneRow_32 : decode cX0_shareOneRow 32 = .ok (.iload_n 3, 1) := by decide +kernel
theorem dX0_shareOneRow_33 : decode cX0_shareOneRow 33 = .ok (.iload_n 1, 1) := by decide +kernel
theorem dX0_shareOneRow_34 : decode cX0_shareOneRow 34 = .ok (.iastore, 1) := by decide +kernel
theorem dX0_shareOneRow_35 : decode cX0_shareOneRow 35 = .ok (.goto 19, 3) := by decide +kernel
theorem dX0_shareOneRow_38 : decode cX0_shareOneRow 38 = .ok (.iload_n 2, 1) := by decide +kernel
theorem dX0_shareOneRow_39 : decode cX0_shareOneRow 39 = .ok (.aload_n 0, 1) := by decide +kernel
theorem dX0_shareOneRow_40 : decode cX0_shareOneRow 40 = .ok (.getfield 21, 3) := by decide +kernel
theorem dX0_shareOneRow_43 : decode cX0_shareOneRow 43 = .ok (.iload_n 3, 1) := by decide +kernel
theorem dX0_shareOneRow_44 : decode cX0_shareOneRow 44 = .ok (.iaload, 1) := by decide +kernel
theorem dX0_shareOneRow_45 : decode cX0_shareOneRow 45 = .ok (.iadd, 1) := by decide +kernel
theorem dX0_shareOneRow_46 : decode cX0_shareOneRow 46 = .ok (.istore_n 2, 1) := by decide +kernel
theorem dX0_shareOneRow_47 : decode cX0_shareOneRow 47 = .ok (.aload_n 0, 1) := by decide +kernel
theorem dX0_shareOneRow_48 : decode cX0_shareOneRow 48 = .ok (.getfield 27, 3) := by decide +kernel
theorem dX0_shareOneRow_51 : decode cX0_shareOneRow 51 = .ok (.iload_n 3, 1) := by decide +kernel
theorem dX0_shareOneRow_52 : decode cX0_shareOneRow 52 = .ok (.iload_n 2, 1) := by decide +kernel
theorem dX0_shareOneRow_53 : decode cX0_shareOneRow 53 = .ok (.iastore, 1) := by decide +kernel
theorem dX0_shareOneRow_54 : decode cX0_shareOneRow 54 = .ok (.iinc 3 1, 3) := by decide +kernel
theorem dX0_shareOneRow_57 : decode cX0_shareOneRow 57 = .ok (.goto (-51), 3) := by decide +kernel
theorem dX0_shareOneRow_60 : decode cX0_shareOneRow 60 = .ok (.return_, 1) := by decide +kernel
theorem dX0_isAway_0 : decode cX0_isAway 0 = .ok (.aload_n 0, 1) := by decide +kernel
theorem dX0_isAway_1 : decode cX0_isAway 1 = .ok (.getfield 53, 3) := by decide +kernel
theorem dX0_isAway_4 : decode cX0_isAway 4 = .ok (.iload_n 1, 1) := by decide +kernel
theorem dX0_isAway_5 : decode cX0_isAway 5 = .ok (.ishr, 1) := by decide +kernel
theorem dX0_isAway_6 : decode cX0_isAway 6 = .ok (.iconst 1, 1) := by decide +kernel
theorem dX0_isAway_7 : decode cX0_isAway 7 = .ok (.iand, 1) := by decide +kernel
theorem dX0_isAway_8 : decode cX0_isAway 8 = .ok (.iconst 1, 1) := by decide +kernel
theorem dX0_isAway_9 : decode cX0_isAway 9 = .ok (.if_icmp .ne 7, 3) := by decide +kernel
theorem dX0_isAway_12 : decode cX0_isAway 12 = .ok (.iconst 1, 1) := by decide +kernel
theorem dX0_isAway_13 : decode cX0_isAway 13 = .ok (.goto 4, 3) := by decide +kernel
theorem dX0_isAway_16 : decode cX0_isAway 16 = .ok (.iconst 0, 1) := by decide +kernel
theorem dX0_isAway_17 : decode cX0_isAway 17 = .ok (.ireturn, 1) := by decide +kernel
set_option maxRecDepth 20000 in
theorem ggX0_servedThere_X0_isAway : GoodIn wsX0_servedThere wsX0_isAway := goodIn_r _ [7, 8, 9, 10, 11, 12, 13, 14, 15, 16] (by decide +kernel) (by decide +kernel)
set_option maxRecDepth 20000 in
theorem gX0_servedThere_X0_isAway : GoodIn wsX0_servedThere (wsV RX0 83 RX0 yX0_isAway wsX0_isAway) := goodIn_app (goodIn_of _ (by decide +kernel)) ggX0_servedThere_X0_isAway
theorem dX0_servedThere_0 : decode cX0_servedThere 0 = .ok (.iconst 0, 1) := by decide +kernel
theorem dX0_servedThere_1 : decode cX0_servedThere 1 = .ok (.istore_n 2, 1) := by decide +kernel
theorem dX0_servedThere_2 : decode cX0_servedThere 2 = .ok (.iconst 0, 1) := by decide +kernel
theorem dX0_servedThere_3 : decode cX0_servedThere 3 = .ok (.istore_n 3, 1) := by decide +kernel
theorem dX0_servedThere_4 : decode cX0_servedThere 4 = .ok (.iload_n 3, 1) := by decide +kernel
theorem dX0_servedThere_5 : decode cX0_servedThere 5 = .ok (.aload_n 0, 1) := by decide +kernel
theorem dX0_servedThere_6 : decode cX0_servedThere 6 = .ok (.getfield 36, 3) := by decide +kernel
theorem dX0_servedThere_9 : decode cX0_servedThere 9 = .ok (.if_icmp .ge 37, 3) := by decide +kernel
theorem dX0_servedThere_12 : decode cX0_servedThere 12 = .ok (.aload_n 0, 1) := by decide +kernel
theorem dX0_servedThere_13 : decode cX0_servedThere 13 = .ok (.aload_n 0, 1) := by decide +kernel
theorem dX0_servedThere_14 : decode cX0_servedThere 14 = .ok (.getfield 24, 3) := by decide +kernel
theorem dX0_servedThere_17 : decode cX0_servedThere 17 = .ok (.iload_n 3, 1) := by decide +kernel
theorem dX0_servedThere_18 : decode cX0_servedThere 18 = .ok (.iaload, 1) := by decide +kernel
theorem dX0_servedThere_19 : decode cX0_servedThere 19 = .ok (.invokevirtual 83, 3) := by decide +kernel
theorem dX0_servedThere_22 : decode cX0_servedThere 22 = .ok (.ifCond .eq 18, 3) := by decide +kernel
theorem dX0_servedThere_25 : decode cX0_servedThere 25 = .ok (.iload_n 2, 1) := by decide +kernel
theorem dX0_servedThere_26 : decode cX0_servedThere 26 = .ok (.iload_n 1, 1) := by decide +kernel
theorem dX0_servedThere_27 : decode cX0_servedThere 27 = .ok (.if_icmp .ne 10, 3) := by decide +kernel
theorem dX0_servedThere_30 : decode cX0_servedThere 30 = .ok (.aload_n 0, 1) := by decide +kernel
theorem dX0_servedThere_31 : decode cX0_servedThere 31 = .ok (.getfield 24, 3) := by decide +kernel
theorem dX0_servedThere_34 : decode cX0_servedThere 34 = .ok (.iload_n 3, 1) := by decide +kernel
theorem dX0_servedThere_35 : decode cX0_servedThere 35 = .ok (.iaload, 1) := by decide +kernel
theorem dX0_servedThere_36 : decode cX0_servedThere 36 = .ok (.ireturn, 1) := by decide +kernel
theorem dX0_servedThere_37 : decode cX0_servedThere 37 = .ok (.iinc 2 1, 3) := by decide +kernel
theorem dX0_servedThere_40 : decode cX0_servedThere 40 = .ok (.iinc 3 1, 3) := by decide +kernel
theorem dX0_servedThere_43 : decode cX0_servedThere 43 = .ok (.goto (-39), 3) := by decide +kernel
theorem dX0_servedThere_46 : decode cX0_servedThere 46 = .ok (.bipush (-4), 2) := by decide +kernel
theorem dX0_servedThere_48 : decode cX0_servedThere 48 = .ok (.ireturn, 1) := by decide +kernel
set_option maxRecDepth 20000 in
theorem ggX0_readyOf_X0_sum : GoodIn wsX0_readyOf wsX0_sum := goodIn_r _ [7, 1, 8, 9, 10, 6, 11, 2, 20, 21, 22, 23, 24, 25, 26, 27] (by decide +kernel) (by decide +kernel)
set_option maxRecDepth 20000 in
theorem gX0_readyOf_X0_sum : GoodIn wsX0_readyOf (wsV RX0 87 RX0 yX0_sum wsX0_sum) := goodIn_app (goodIn_of _ (by decide +kernel)) ggX0_readyOf_X0_sum
set_option maxRecDepth 20000 in
theorem ggX0_readyOf_X0_latest : GoodIn wsX0_readyOf wsX0_latest := goodIn_r _ [15, 1, 2, 16, 17, 18, 19, 20, 21, 22, 23, 24, 25, 26, 27] (by decide +kernel) (by decide +kernel)
set_option maxRecDepth 20000 in
theorem gX0_readyOf_X0_latest : GoodIn wsX0_readyOf (wsV RX0 91 RX0 yX0_latest wsX0_latest) := goodIn_app (goodIn_of _ (by decide +kernel)) ggX0_readyOf_X0_latest
theorem dX0_readyOf_0 : decode cX0_readyOf 0 = .ok (.iload_n 1, 1) := by decide +kernel
theorem dX0_readyOf_1 : decode cX0_readyOf 1 = .ok (.bipush (-2), 2) := by decide +kernel
theorem dX0_readyOf_3 : decode cX0_readyOf 3 = .ok (.if_icmp .ne 8, 3) := by decide +kernel
theorem dX0_readyOf_6 : decode cX0_readyOf 6 = .ok (.aload_n 0, 1) := by decide +kernel
theorem dX0_readyOf_7 : decode cX0_readyOf 7 = .ok (.invokevirtual 87, 3) := by decide +kernel
theorem dX0_readyOf_10 : decode cX0_readyOf 10 = .ok (.ireturn, 1) := by decide +kernel
theorem dX0_readyOf_11 : decode cX0_readyOf 11 = .ok (.iload_n 1, 1) := by decide +kernel
theorem dX0_readyOf_12 : decode cX0_readyOf 12 = .ok (.ifCond .lt 20, 3) := by decide +kernel
theorem dX0_readyOf_15 : decode cX0_readyOf 15 = .ok (.iload_n 1, 1) := by decide +kernel
theorem dX0_readyOf_16 : decode cX0_readyOf 16 = .ok (.aload_n 0, 1) := by decide +kernel
theorem dX0_readyOf_17 : decode cX0_readyOf 17 = .ok (.getfield 36, 3) := by decide +kernel
theorem dX0_readyOf_20 : decode cX0_readyOf 20 = .ok (.if_icmp .ge 12, 3) := by decide +kernel
theorem dX0_readyOf_23 : decode cX0_readyOf 23 = .ok (.aload_n 0, 1) := by decide +kernel
theorem dX0_readyOf_24 : decode cX0_readyOf 24 = .ok (.getfield 27, 3) := by decide +kernel
theorem dX0_readyOf_27 : decode cX0_readyOf 27 = .ok (.iload_n 1, 1) := by decide +kernel
theorem dX0_readyOf_28 : decode cX0_readyOf 28 = .ok (.iaload, 1) := by decide +kernel
theorem dX0_readyOf_29 : decode cX0_readyOf 29 = .ok (.goto 7, 3) := by decide +kernel
theorem dX0_readyOf_32 : decode cX0_readyOf 32 = .ok (.aload_n 0, 1) := by decide +kernel
theorem dX0_readyOf_33 : decode cX0_readyOf 33 = .ok (.invokevirtual 91, 3) := by decide +kernel
theorem dX0_readyOf_36 : decode cX0_readyOf 36 = .ok (.ireturn, 1) := by decide +kernel
theorem dX0_latest_0 : decode cX0_latest 0 = .ok (.iconst 0, 1) := by decide +kernel
theorem dX0_latest_1 : decode cX0_latest 1 = .ok (.istore_n 1, 1) := by decide +kernel
theorem dX0_latest_2 : decode cX0_latest 2 = .ok (.iconst 0, 1) := by decide +kernel
theorem dX0_latest_3 : decode cX0_latest 3 = .ok (.istore_n 2, 1) := by decide +kernel
theorem dX0_latest_4 : decode cX0_latest 4 = .ok (.iload_n 2, 1) := by decide +kernel
theorem dX0_latest_5 : decode cX0_latest 5 = .ok (.aload_n 0, 1) := by decide +kernel
theorem dX0_latest_6 : decode cX0_latest 6 = .ok (.getfield 36, 3) := by decide +kernel
theorem dX0_latest_9 : decode cX0_latest 9 = .ok (.if_icmp .ge 20, 3) := by decide +kernel
theorem dX0_latest_12 : decode cX0_latest 12 = .ok (.iload_n 1, 1) := by decide +kernel
theorem dX0_latest_13 : decode cX0_latest 13 = .ok (.aload_n 0, 1) := by decide +kernel
theorem dX0_latest_14 : decode cX0_latest 14 = .ok (.getfield 27, 3) := by decide +kernel
theorem dX0_latest_17 : decode cX0_latest 17 = .ok (.iload_n 2, 1) := by decide +kernel
theorem dX0_latest_18 : decode cX0_latest 18 = .ok (.iaload, 1) := by decide +kernel
theorem dX0_latest_19 : decode cX0_latest 19 = .ok (.invokestatic 56, 3) := by decide +kernel
theorem dX0_latest_22 : decode cX0_latest 22 = .ok (.istore_n 1, 1) := by decide +kernel
theorem dX0_latest_23 : decode cX0_latest 23 = .ok (.iinc 2 1, 3) := by decide +kernel
theorem dX0_latest_26 : decode cX0_latest 26 = .ok (.goto (-22), 3) := by decide +kernel
theorem dX0_latest_29 : decode cX0_latest 29 = .ok (.iload_n 1, 1) := by decide +kernel
theorem dX0_latest_30 : decode cX0_latest 30 = .ok (.ireturn, 1) := by decide +kernel
set_option maxRecDepth 20000 in
theorem ggX0_sum_X0_sumOfHead : GoodIn wsX0_sum wsX0_sumOfHead := goodIn_r _ [6, 1, 7, 8, 9, 10, 11, 12, 13, 14, 15] (by decide +kernel) (by decide +kernel)
set_option maxRecDepth 20000 in
theorem gX0_sum_X0_sumOfHead : GoodIn wsX0_sum (wsV RX0 94 RX0 yX0_sumOfHead wsX0_sumOfHead) := goodIn_app (goodIn_of _ (by decide +kernel)) ggX0_sum_X0_sumOfHead
theorem dX0_sum_0 : decode cX0_sum 0 = .ok (.aload_n 0, 1) := by decide +kernel
theorem dX0_sum_1 : decode cX0_sum 1 = .ok (.aload_n 0, 1) := by decide +kernel
theorem dX0_sum_2 : decode cX0_sum 2 = .ok (.getfield 36, 3) := by decide +kernel
theorem dX0_sum_5 : decode cX0_sum 5 = .ok (.invokevirtual 94, 3) := by decide +kernel
theorem dX0_sum_8 : decode cX0_sum 8 = .ok (.ireturn, 1) := by decide +kernel
theorem dX0_sumOfHead_0 : decode cX0_sumOfHead 0 = .ok (.iconst 0, 1) := by decide +kernel
theorem dX0_sumOfHead_1 : decode cX0_sumOfHead 1 = .ok (.istore_n 2, 1) := by decide +kernel
theorem dX0_sumOfHead_2 : decode cX0_sumOfHead 2 = .ok (.iconst 0, 1) := by decide +kernel
theorem dX0_sumOfHead_3 : decode cX0_sumOfHead 3 = .ok (.istore_n 3, 1) := by decide +kernel
theorem dX0_sumOfHead_4 : decode cX0_sumOfHead 4 = .ok (.iload_n 3, 1) := by decide +kernel
theorem dX0_sumOfHead_5 : decode cX0_sumOfHead 5 = .ok (.iload_n 1, 1) := by decide +kernel
theorem dX0_sumOfHead_6 : decode cX0_sumOfHead 6 = .ok (.if_icmp .ge 26, 3) := by decide +kernel
theorem dX0_sumOfHead_9 : decode cX0_sumOfHead 9 = .ok (.iload_n 3, 1) := by decide +kernel
theorem dX0_sumOfHead_10 : decode cX0_sumOfHead 10 = .ok (.aload_n 0, 1) := by decide +kernel
theorem dX0_sumOfHead_11 : decode cX0_sumOfHead 11 = .ok (.getfield 36, 3) := by decide +kernel
theorem dX0_sumOfHead_14 : decode cX0_sumOfHead 14 = .ok (.if_icmp .ge 18, 3) := by decide +kernel
theorem dX0_sumOfHead_17 : decode cX0_sumOfHead 17 = .ok (.iload_n 2, 1) := by decide +kernel
theorem dX0_sumOfHead_18 : decode cX0_sumOfHead 18 = .ok (.aload_n 0, 1) := by decide +kernel
theorem dX0_sumOfHead_19 : decode cX0_sumOfHead 19 = .ok (.getfield 27, 3) := by decide +kernel
theorem dX0_sumOfHead_22 : decode cX0_sumOfHead 22 = .ok (.iload_n 3, 1) := by decide +kernel
theorem dX0_sumOfHead_23 : decode cX0_sumOfHead 23 = .ok (.iaload, 1) := by decide +kernel
theorem dX0_sumOfHead_24 : decode cX0_sumOfHead 24 = .ok (.iadd, 1) := by decide +kernel
theorem dX0_sumOfHead_25 : decode cX0_sumOfHead 25 = .ok (.istore_n 2, 1) := by decide +kernel
theorem dX0_sumOfHead_26 : decode cX0_sumOfHead 26 = .ok (.iinc 3 1, 3) := by decide +kernel
theorem dX0_sumOfHead_29 : decode cX0_sumOfHead 29 = .ok (.goto (-25), 3) := by decide +kernel
theorem dX0_sumOfHead_32 : decode cX0_sumOfHead 32 = .ok (.iload_n 2, 1) := by decide +kernel
theorem dX0_sumOfHead_33 : decode cX0_sumOfHead 33 = .ok (.ireturn, 1) := by decide +kernel
theorem dX0_overtakersOf_0 : decode cX0_overtakersOf 0 = .ok (.iconst 0, 1) := by decide +kernel
theorem dX0_overtakersOf_1 : decode cX0_overtakersOf 1 = .ok (.istore_n 2, 1) := by decide +kernel
theorem dX0_overtakersOf_2 : decode cX0_overtakersOf 2 = .ok (.iload_n 1, 1) := by decide +kernel
theorem dX0_overtakersOf_3 : decode cX0_overtakersOf 3 = .ok (.iconst 1, 1) := by decide +kernel
theorem dX0_overtakersOf_4 : decode cX0_overtakersOf 4 = .ok (.iadd, 1) := by decide +kernel
theorem dX0_overtakersOf_5 : decode cX0_overtakersOf 5 = .ok (.istore_n 3, 1) := by decide +kernel
theorem dX0_overtakersOf_6 : decode cX0_overtakersOf 6 = .ok (.iload_n 3, 1) := by decide +kernel
theorem dX0_overtakersOf_7 : decode cX0_overtakersOf 7 = .ok (.aload_n 0, 1) := by decide +kernel
theorem dX0_overtakersOf_8 : decode cX0_overtakersOf 8 = .ok (.getfield 36, 3) := by decide +kernel
theorem dX0_overtakersOf_11 : decode cX0_overtakersOf 11 = .ok (.if_icmp .ge 30, 3) := by decide +kernel
theorem dX0_overtakersOf_14 : decode cX0_overtakersOf 14 = .ok (.aload_n 0, 1) := by decide +kernel
theorem dX0_overtakersOf_15 : decode cX0_overtakersOf 15 = .ok (.getfield 27, 3) := by decide +kernel
theorem dX0_overtakersOf_18 : decode cX0_overtakersOf 18 = .ok (.iload_n 3, 1) := by decide +kernel
theorem dX0_overtakersOf_19 : decode cX0_overtakersOf 19 = .ok (.iaload, 1) := by decide +kernel
theorem dX0_overtakersOf_20 : decode cX0_overtakersOf 20 = .ok (.aload_n 0, 1) := by decide +kernel
theorem dX0_overtakersOf_21 : decode cX0_overtakersOf 21 = .ok (.getfield 27, 3) := by decide +kernel
theorem dX0_overtakersOf_24 : decode cX0_overtakersOf 24 = .ok (.iload_n 1, 1) := by decide +kernel
theorem dX0_overtakersOf_25 : decode cX0_overtakersOf 25 = .ok (.iaload, 1) := by decide +kernel
theorem dX0_overtakersOf_26 : decode cX0_overtakersOf 26 = .ok (.if_icmp .ge 9, 3) := by decide +kernel
theorem dX0_overtakersOf_29 : decode cX0_overtakersOf 29 = .ok (.iload_n 2, 1) := by decide +kernel
theorem dX0_overtakersOf_30 : decode cX0_overtakersOf 30 = .ok (.iconst 1, 1) := by decide +kernel
theorem dX0_overtakersOf_31 : decode cX0_overtakersOf 31 = .ok (.iload_n 3, 1) := by decide +kernel
theorem dX0_overtakersOf_32 : decode cX0_overtakersOf 32 = .ok (.ishl, 1) := by decide +kernel
theorem dX0_overtakersOf_33 : decode cX0_overtakersOf 33 = .ok (.ior, 1) := by decide +kernel
theorem dX0_overtakersOf_34 : decode cX0_overtakersOf 34 = .ok (.istore_n 2, 1) := by decide +kernel
theorem dX0_overtakersOf_35 : decode cX0_overtakersOf 35 = .ok (.iinc 3 1, 3) := by decide +kernel
theorem dX0_overtakersOf_38 : decode cX0_overtakersOf 38 = .ok (.goto (-32), 3) := by decide +kernel
theorem dX0_overtakersOf_41 : decode cX0_overtakersOf 41 = .ok (.iload_n 2, 1) := by decide +kernel
theorem dX0_overtakersOf_42 : decode cX0_overtakersOf 42 = .ok (.ireturn, 1) := by decide +kernel
set_option maxRecDepth 20000 in
theorem ggX0_overtakings_X0_overtakersOf : GoodIn wsX0_overtakings wsX0_overtakersOf := goodIn_r _ [6, 1, 7, 15, 16, 17, 18, 19, 20, 21, 22] (by decide +kernel) (by decide +kernel)
set_option maxRecDepth 20000 in
theorem gX0_overtakings_X0_overtakersOf : GoodIn wsX0_overtakings (wsV RX0 97 RX0 yX0_overtakersOf wsX0_overtakersOf) := goodIn_app (goodIn_of _ (by decide +kernel)) ggX0_overtakings_X0_overtakersOf
set_option maxRecDepth 20000 in
theorem ggX0_overtakings_J6_bitCount_0f7a4 : GoodIn wsX0_overtakings wsJ6_bitCount_0f7a4 := goodIn_r _ [11, 12, 13, 14] (by decide +kernel) (by decide +kernel)
set_option maxRecDepth 20000 in
theorem gX0_overtakings_J6_bitCount_0f7a4 : GoodIn wsX0_overtakings (va_wsS RX0 75 yJ6_bitCount_0f7a4 wsJ6_bitCount_0f7a4) := goodIn_app (goodIn_of _ (by decide +kernel)) ggX0_overtakings_J6_bitCount_0f7a4
theorem dX0_overtakings_0 : decode cX0_overtakings 0 = .ok (.iconst 0, 1) := by decide +kernel
theorem dX0_overtakings_1 : decode cX0_overtakings 1 = .ok (.istore_n 1, 1) := by decide +kernel
theorem dX0_overtakings_2 : decode cX0_overtakings 2 = .ok (.iconst 0, 1) := by decide +kernel
theorem dX0_overtakings_3 : decode cX0_overtakings 3 = .ok (.istore_n 2, 1) := by decide +kernel
theorem dX0_overtakings_4 : decode cX0_overtakings 4 = .ok (.iload_n 2, 1) := by decide +kernel
theorem dX0_overtakings_5 : decode cX0_overtakings 5 = .ok (.aload_n 0, 1) := by decide +kernel
theorem dX0_overtakings_6 : decode cX0_overtakings 6 = .ok (.getfield 36, 3) := by decide +kernel
theorem dX0_overtakings_9 : decode cX0_overtakings 9 = .ok (.if_icmp .ge 20, 3) := by decide +kernel
theorem dX0_overtakings_12 : decode cX0_overtakings 12 = .ok (.iload_n 1, 1) := by decide +kernel
theorem dX0_overtakings_13 : decode cX0_overtakings 13 = .ok (.aload_n 0, 1) := by decide +kernel
theorem dX0_overtakings_14 : decode cX0_overtakings 14 = .ok (.iload_n 2, 1) := by decide +kernel
theorem dX0_overtakings_15 : decode cX0_overtakings 15 = .ok (.invokevirtual 97, 3) := by decide +kernel
theorem dX0_overtakings_18 : decode cX0_overtakings 18 = .ok (.invokestatic 75, 3) := by decide +kernel
theorem dX0_overtakings_21 : decode cX0_overtakings 21 = .ok (.iadd, 1) := by decide +kernel
theorem dX0_overtakings_22 : decode cX0_overtakings 22 = .ok (.istore_n 1, 1) := by decide +kernel
theorem dX0_overtakings_23 : decode cX0_overtakings 23 = .ok (.iinc 2 1, 3) := by decide +kernel
theorem dX0_overtakings_26 : decode cX0_overtakings 26 = .ok (.goto (-22), 3) := by decide +kernel
theorem dX0_overtakings_29 : decode cX0_overtakings 29 = .ok (.iload_n 1, 1) := by decide +kernel
theorem dX0_overtakings_30 : decode cX0_overtakings 30 = .ok (.ireturn, 1) := by decide +kernel
set_option maxRecDepth 20000 in
theorem ggX1_init_X3_init : GoodIn wsX1_init wsX3_init := goodIn_r _ [13, 14, 2, 3, 15, 16, 17, 18, 19, 20, 21, 24, 25, 26, 27, 28, 29, 30] (by decide +kernel) (by decide +kernel)
set_option maxRecDepth 20000 in
theorem gX1_init_X3_init_n21 : GoodIn wsX1_init (wsX3_init) := ggX1_init_X3_init
theorem dX1_init_0 : decode cX1_init 0 = .ok (.aload_n 0, 1) := by decide +kernel
theorem dX1_init_1 : decode cX1_init 1 = .ok (.invokespecial 1, 3) := by decide +kernel
theorem dX1_init_4 : decode cX1_init 4 = .ok (.aload_n 0, 1) := by decide +kernel
theorem dX1_init_5 : decode cX1_init 5 = .ok (.iload_n 1, 1) := by decide +kernel
theorem dX1_init_6 : decode cX1_init 6 = .ok (.iconst 1, 1) := by decide +kernel
theorem dX1_init_7 : decode cX1_init 7 = .ok (.invokestatic 7, 3) := by decide +kernel
theorem dX1_init_10 : decode cX1_init 10 = .ok (.anewarray 13, 3) := by decide +kernel
theorem dX1_init_13 : decode cX1_init 13 = .ok (.putfield 15, 3) := by decide +kernel
theorem dX1_init_16 : decode cX1_init 16 = .ok (.iconst 0, 1) := by decide +kernel
theorem dX1_init_17 : decode cX1_init 17 = .ok (.istore_n 2, 1) := by decide +kernel
theorem dX1_init_18 : decode cX1_init 18 = .ok (.iload_n 2, 1) := by decide +kernel
theorem dX1_init_19 : decode cX1_init 19 = .ok (.aload_n 0, 1) := by decide +kernel
theorem dX1_init_20 : decode cX1_init 20 = .ok (.getfield 15, 3) := by decide +kernel
theorem dX1_init_23 : decode cX1_init 23 = .ok (.arraylength, 1) := by decide +kernel
theorem dX1_init_24 : decode cX1_init 24 = .ok (.if_icmp .ge 22, 3) := by decide +kernel
theorem dX1_init_27 : decode cX1_init 27 = .ok (.aload_n 0, 1) := by decide +kernel
theorem dX1_init_28 : decode cX1_init 28 = .ok (.getfield 15, 3) := by decide +kernel
theorem dX1_init_31 : decode cX1_init 31 = .ok (.iload_n 2, 1) := by decide +kernel
theorem dX1_init_32 : decode cX1_init 32 = .ok (.new 13, 3) := by decide +kernel
theorem dX1_init_35 : decode cX1_init 35 = .ok (.dup, 1) := by decide +kernel
theorem dX1_init_36 : decode cX1_init 36 = .ok (.invokespecial 21, 3) := by decide +kernel
theorem dX1_init_39 : decode cX1_init 39 = .ok (.aastore, 1) := by decide +kernel
theorem dX1_init_40 : decode cX1_init 40 = .ok (.iinc 2 1, 3) := by decide +kernel
theorem dX1_init_43 : decode cX1_init 43 = .ok (.goto (-25), 3) := by decide +kernel
theorem dX1_init_46 : decode cX1_init 46 = .ok (.return_, 1) := by decide +kernel
set_option maxRecDepth 20000 in
theorem ggX1_put_X3_becomeLike : GoodIn wsX1_put wsX3_becomeLike := goodIn_r _ [7, 8, 9, 10, 11, 12, 13, 14, 17, 18, 19, 20, 21, 22, 23] (by decide +kernel) (by decide +kernel)
set_option maxRecDepth 20000 in
theorem gX1_put_X3_becomeLike : GoodIn wsX1_put (wsV RX1 26 RX3 yX3_becomeLike wsX3_becomeLike) := goodIn_app (goodIn_of _ (by decide +kernel)) ggX1_put_X3_becomeLike
theorem dX1_put_0 : decode cX1_put 0 = .ok (.aload_n 0, 1) := by decide +kernel
theorem dX1_put_1 : decode cX1_put 1 = .ok (.getfield 22, 3) := by decide +kernel
theorem dX1_put_4 : decode cX1_put 4 = .ok (.aload_n 0, 1) := by decide +kernel
theorem dX1_put_5 : decode cX1_put 5 = .ok (.getfield 15, 3) := by decide +kernel
theorem dX1_put_8 : decode cX1_put 8 = .ok (.arraylength, 1) := by decide +kernel
theorem dX1_put_9 : decode cX1_put 9 = .ok (.if_icmp .lt 5, 3) := by decide +kernel
theorem dX1_put_12 : decode cX1_put 12 = .ok (.iconst 0, 1) := by decide +kernel
theorem dX1_put_13 : decode cX1_put 13 = .ok (.ireturn, 1) := by decide +kernel
theorem dX1_put_14 : decode cX1_put 14 = .ok (.aload_n 0, 1) := by decide +kernel
theorem dX1_put_15 : decode cX1_put 15 = .ok (.getfield 15, 3) := by decide +kernel
theorem dX1_put_18 : decode cX1_put 18 = .ok (.aload_n 0, 1) := by decide +kernel
theorem dX1_put_19 : decode cX1_put 19 = .ok (.getfield 22, 3) := by decide +kernel
theorem dX1_put_22 : decode cX1_put 22 = .ok (.aaload, 1) := by decide +kernel
theorem dX1_put_23 : decode cX1_put 23 = .ok (.aload_n 1, 1) := by decide +kernel
theorem dX1_put_24 : decode cX1_put 24 = .ok (.invokevirtual 26, 3) := by decide +kernel
theorem dX1_put_27 : decode cX1_put 27 = .ok (.aload_n 0, 1) := by decide +kernel
theorem dX1_put_28 : decode cX1_put 28 = .ok (.dup, 1) := by decide +kernel
theorem dX1_put_29 : decode cX1_put 29 = .ok (.getfield 22, 3) := by decide +kernel
theorem dX1_put_32 : decode cX1_put 32 = .ok (.iconst 1, 1) := by decide +kernel
theorem dX1_put_33 : decode cX1_put 33 = .ok (.iadd, 1) := by decide +kernel
theorem dX1_put_34 : decode cX1_put 34 = .ok (.putfield 22, 3) := by decide +kernel
theorem dX1_put_37 : decode cX1_put 37 = .ok (.iconst 1, 1) := by decide +kernel
theorem dX1_put_38 : decode cX1_put 38 = .ok (.ireturn, 1) := by decide +kernel
set_option maxRecDepth 20000 in
theorem ggX1_putDroppingOldest_X1_put : GoodIn wsX1_putDroppingOldest wsX1_put := goodIn_r _ [7, 1, 2, 8, 9, 10, 11, 12, 13, 14, 15, 16, 17, 18, 19, 20, 21, 22, 23, 24, 25, 26, 27, 28] (by decide +kernel) (by decide +kernel)
set_option maxRecDepth 20000 in
theorem gX1_putDroppingOldest_X1_put : GoodIn wsX1_putDroppingOldest (wsV RX1 30 RX1 yX1_put wsX1_put) := goodIn_app (goodIn_of _ (by decide +kernel)) ggX1_putDroppingOldest_X1_put
theorem dX1_putDroppingOldest_0 : decode cX1_putDroppingOldest 0 = .ok (.aload_n 0, 1) := by decide +kernel
theorem dX1_putDroppingOldest_1 : decode cX1_putDroppingOldest 1 = .ok (.getfield 22, 3) := by decide +kernel
theorem dX1_putDroppingOldest_4 : decode cX1_putDroppingOldest 4 = .ok (.aload_n 0, 1) := by decide +kernel
theorem dX1_putDroppingOldest_5 : decode cX1_putDroppingOldest 5 = .ok (.getfield 15, 3) := by decide +kernel
theorem dX1_putDroppingOldest_8 : decode cX1_putDroppingOldest 8 = .ok (.arraylength, 1) := by decide +kernel
theorem dX1_putDroppingOldest_9 : decode cX1_putDroppingOldest 9 = .ok (.if_icmp .lt 67, 3) := by decide +kernel
theorem dX1_putDroppingOldest_12 : decode cX1_putDroppingOldest 12 = .ok (.aload_n 0, 1) := by decide +kernel
theorem dX1_putDroppingOldest_13 : decode cX1_putDroppingOldest 13 = .ok (.getfield 15, 3) := by decide +kernel
theorem dX1_putDroppingOldest_16 : decode cX1_putDroppingOldest 16 = .ok (.iconst 0, 1) := by decide +kernel
theorem dX1_putDroppingOldest_17 : decode cX1_putDroppingOldest 17 = .ok (.aaload, 1) := by decide +kernel
theorem dX1_putDroppingOldest_18 : decode cX1_putDroppingOldest 18 = .ok (.astore_n 2, 1) := by decide +kernel
theorem dX1_putDroppingOldest_19 : decode cX1_putDroppingOldest 19 = .ok (.iconst 0, 1) := by decide +kernel
theorem dX1_putDroppingOldest_20 : decode cX1_putDroppingOldest 20 = .ok (.istore_n 3, 1) := by decide +kernel
theorem dX1_putDroppingOldest_21 : decode cX1_putDroppingOldest 21 = .ok (.iload_n 3, 1) := by decide +kernel
theorem dX1_putDroppingOldest_22 : decode cX1_putDroppingOldest 22 = .ok (.iconst 1, 1) := by decide +kernel
theorem dX1_putDroppingOldest_23 : decode cX1_putDroppingOldest 23 = .ok (.iadd, 1) := by decide +kernel
theorem dX1_putDroppingOldest_24 : decode cX1_putDroppingOldest 24 = .ok (.aload_n 0, 1) := by decide +kernel
theorem dX1_putDroppingOldest_25 : decode cX1_putDroppingOldest 25 = .ok (.getfield 15, 3) := by decide +kernel
theorem dX1_putDroppingOldest_28 : decode cX1_putDroppingOldest 28 = .ok (.arraylength, 1) := by decide +kernel
theorem dX1_putDroppingOldest_29 : decode cX1_putDroppingOldest 29 = .ok (.if_icmp .ge 23, 3) := by decide +kernel
theorem dX1_putDroppingOldest_32 : decode cX1_putDroppingOldest 32 = .ok (.aload_n 0, 1) := by decide +kernel
theorem dX1_putDroppingOldest_33 : decode cX1_putDroppingOldest 33 = .ok (.getfield 15, 3) := by decide +kernel
theorem dX1_putDroppingOldest_36 : decode cX1_putDroppingOldest 36 = .ok (.iload_n 3, 1) := by decide +kernel
theorem dX1_putDroppingOldest_37 : decode cX1_putDroppingOldest 37 = .ok (.aload_n 0, 1) := by decide +kernel
theorem dX1_putDroppingOldest_38 : decode cX1_putDroppingOldest 38 = .ok (.getfield 15, 3) := by decide +kernel
theorem dX1_putDroppingOldest_41 : decode cX1_putDroppingOldest 41 = .ok (.iload_n 3, 1) := by decide +kernel
theorem dX1_putDroppingOldest_42 : decode cX1_putDroppingOldest 42 = .ok (.iconst 1, 1) := by decide +kernel
theorem dX1_putDroppingOldest_43 : decode cX1_putDroppingOldest 43 = .ok (.iadd, 1) := by decide +kernel
theorem dX1_putDroppingOldest_44 : decode cX1_putDroppingOldest 44 = .ok (.aaload, 1) := by decide +kernel
theorem dX1_putDroppingOldest_45 : decode cX1_putDroppingOldest 45 = .ok (.aastore, 1) := by decide +kernel
theorem dX1_putDroppingOldest_46 : decode cX1_putDroppingOldest 46 = .ok (.iinc 3 1, 3) := by decide +kernel
theorem dX1_putDroppingOldest_49 : decode cX1_putDroppingOldest 49 = .ok (.goto (-28), 3) := by decide +kernel
theorem dX1_putDroppingOldest_52 : decode cX1_putDroppingOldest 52 = .ok (.aload_n 0, 1) := by decide +kernel
theorem dX1_putDroppingOldest_53 : decode cX1_putDroppingOldest 53 = .ok (.getfield 15, 3) := by decide +kernel
theorem dX1_putDroppingOldest_56 : decode cX1_putDroppingOldest 56 = .ok (.aload_n 0, 1) := by decide +kernel
theorem dX1_putDroppingOldest_57 : decode cX1_putDroppingOldest 57 = .ok (.getfield 15, 3) := by decide +kernel
theorem dX1_putDroppingOldest_60 : decode cX1_putDroppingOldest 60 = .ok (.arraylength, 1) := by decide +kernel
theorem dX1_putDroppingOldest_61 : decode cX1_putDroppingOldest 61 = .ok (.iconst 1, 1) := by decide +kernel
theorem dX1_putDroppingOldest_62 : decode cX1_putDroppingOldest 62 = .ok (.isub, 1) := by decide +kernel
theorem dX1_putDroppingOldest_63 : decode cX1_putDroppingOldest 63 = .ok (.aload_n 2, 1) := by decide +kernel
theorem dX1_putDroppingOldest_64 : decode cX1_putDroppingOldest 64 = .ok (.aastore, 1) := by decide +kernel
theorem dX1_putDroppingOldest_65 : decode cX1_putDroppingOldest 65 = .ok (.aload_n 0, 1) := by decide +kernel
theorem dX1_putDroppingOldest_66 : decode cX1_putDroppingOldest 66 = .ok (.aload_n 0, 1) := by decide +kernel
theorem dX1_putDroppingOldest_67 : decode cX1_putDroppingOldest 67 = .ok (.getfield 15, 3) := by decide +kernel
theorem dX1_putDroppingOldest_70 : decode cX1_putDroppingOldest 70 = .ok (.arraylength, 1) := by decide +kernel
theorem dX1_putDroppingOldest_71 : decode cX1_putDroppingOldest 71 = .ok (.iconst 1, 1) := by decide +kernel
theorem dX1_putDroppingOldest_72 : decode cX1_putDroppingOldest 72 = .ok (.isub, 1) := by decide +kernel
theorem dX1_putDroppingOldest_73 : decode cX1_putDroppingOldest 73 = .ok (.putfield 22, 3) := by decide +kernel
theorem dX1_putDroppingOldest_76 : decode cX1_putDroppingOldest 76 = .ok (.aload_n 0, 1) := by decide +kernel
theorem dX1_putDroppingOldest_77 : decode cX1_putDroppingOldest 77 = .ok (.aload_n 1, 1) := by decide +kernel
theorem dX1_putDroppingOldest_78 : decode cX1_putDroppingOldest 78 = .ok (.invokevirtual 30, 3) := by decide +kernel
theorem dX1_putDroppingOldest_81 : decode cX1_putDroppingOldest 81 = .ok (.pop, 1) := by decide +kernel
theorem dX1_putDroppingOldest_82 : decode cX1_putDroppingOldest 82 = .ok (.return_, 1) := by decide +kernel
set_option maxRecDepth 20000 in
theorem ggX1_takeInto_X3_becomeLike : GoodIn wsX1_takeInto wsX3_becomeLike := goodIn_r _ [7, 8, 9, 10, 11, 12, 13, 14, 17, 18, 19, 20, 21, 22, 23] (by decide +kernel) (by decide +kernel)
set_option maxRecDepth 20000 in
theorem gX1_takeInto_X3_becomeLike : GoodIn wsX1_takeInto (wsV RX1 26 RX3 yX3_becomeLike wsX3_becomeLike) := goodIn_app (goodIn_of _ (by decide +kernel)) ggX1_takeInto_X3_becomeLike
theorem dX1_takeInto_0 : decode cX1_takeInto 0 = .ok (.aload_n 0, 1) := by decide +kernel
theorem dX1_takeInto_1 : decode cX1_takeInto 1 = .ok (.getfield 22, 3) := by decide +kernel
theorem dX1_takeInto_4 : decode cX1_takeInto 4 = .ok (.ifCond .gt 5, 3) := by decide +kernel
theorem dX1_takeInto_7 : decode cX1_takeInto 7 = .ok (.iconst 0, 1) := by decide +kernel
theorem dX1_takeInto_8 : decode cX1_takeInto 8 = .ok (.ireturn, 1) := by decide +kernel
theorem dX1_takeInto_9 : decode cX1_takeInto 9 = .ok (.aload_n 0, 1) := by decide +kernel
theorem dX1_takeInto_10 : decode cX1_takeInto 10 = .ok (.dup, 1) := by decide +kernel
theorem dX1_takeInto_11 : decode cX1_takeInto 11 = .ok (.getfield 22, 3) := by decide +kernel
theorem dX1_takeInto_14 : decode cX1_takeInto 14 = .ok (.iconst 1, 1) := by decide +kernel
theorem dX1_takeInto_15 : decode cX1_takeInto 15 = .ok (.isub, 1) := by decide +kernel
theorem dX1_takeInto_16 : decode cX1_takeInto 16 = .ok (.putfield 22, 3) := by decide +kernel
theorem dX1_takeInto_19 : decode cX1_takeInto 19 = .ok (.aload_n 1, 1) := by decide +kernel
theorem dX1_takeInto_20 : decode cX1_takeInto 20 = .ok (.aload_n 0, 1) := by decide +kernel
theorem dX1_takeInto_21 : decode cX1_takeInto 21 = .ok (.getfield 15, 3) := by decide +kernel
theorem dX1_takeInto_24 : decode cX1_takeInto 24 = .ok (.aload_n 0, 1) := by decide +kernel
theorem dX1_takeInto_25 : decode cX1_takeInto 25 = .ok (.getfield 22, 3) := by decide +kernel
theorem dX1_takeInto_28 : decode cX1_takeInto 28 = .ok (.aaload, 1) := by decide +kernel
theorem dX1_takeInto_29 : decode cX1_takeInto 29 = .ok (.invokevirtual 26, 3) := by decide +kernel
theorem dX1_takeInto_32 : decode cX1_takeInto 32 = .ok (.iconst 1, 1) := by decide +kernel
theorem dX1_takeInto_33 : decode cX1_takeInto 33 = .ok (.ireturn, 1) := by decide +kernel
set_option maxRecDepth 20000 in
theorem ggX2_init_X0_init : GoodIn wsX2_init wsX0_init := goodIn_r _ [9, 10, 2, 3, 11, 12, 13, 14, 15, 16, 17, 18, 19, 20, 21, 22, 23, 24, 25] (by decide +kernel) (by decide +kernel)
set_option maxRecDepth 20000 in
theorem gX2_init_X0_init_n11 : GoodIn wsX2_init (wsX0_init) := ggX2_init_X0_init
theorem dX2_init_0 : decode cX2_init 0 = .ok (.aload_n 0, 1) := by decide +kernel
theorem dX2_init_1 : decode cX2_init 1 = .ok (.invokespecial 3, 3) := by decide +kernel
theorem dX2_init_4 : decode cX2_init 4 = .ok (.aload_n 0, 1) := by decide +kernel
theorem dX2_init_5 : decode cX2_init 5 = .ok (.new 9, 3) := by decide +kernel
theorem dX2_init_8 : decode cX2_init 8 = .ok (.dup, 1) := by decide +kernel
theorem dX2_init_9 : decode cX2_init 9 = .ok (.invokespecial 11, 3) := by decide +kernel
theorem dX2_init_12 : decode cX2_init 12 = .ok (.putfield 12, 3) := by decide +kernel
theorem dX2_init_15 : decode cX2_init 15 = .ok (.return_, 1) := by decide +kernel
set_option maxRecDepth 20000 in
theorem ggX2_findLeast_X0_lookAt : GoodIn wsX2_findLeast wsX0_lookAt := goodIn_r _ [9, 10, 11, 12, 13, 14, 15, 16, 17, 18, 19, 20, 21, 22, 23, 24, 25, 26, 27, 28, 29, 30, 31, 32, 33, 34, 8, 35, 36, 90, 91, 92, 93, 94, 95, 96, 97, 98, 99, 100, 101, 102, 103, 104] (by decide +kernel) (by decide +kernel)
set_option maxRecDepth 20000 in
theorem gX2_findLeast_X0_lookAt : GoodIn wsX2_findLeast (wsV RX2 18 RX0 yX0_lookAt wsX0_lookAt) := goodIn_app (goodIn_of _ (by decide +kernel)) ggX2_findLeast_X0_lookAt
set_option maxRecDepth 20000 in
theorem ggX2_findLeast_X0_send : GoodIn wsX2_findLeast wsX0_send := goodIn_r _ [40, 41, 11, 36, 14, 42, 43, 44, 45, 18, 46, 47, 48, 49, 8, 50, 51, 52, 53, 54, 15, 97, 98, 99, 100, 101, 102, 103, 104] (by decide +kernel) (by decide +kernel)
set_option maxRecDepth 20000 in
theorem gX2_findLeast_X0_send : GoodIn wsX2_findLeast (wsV RX2 22 RX0 yX0_send wsX0_send) := goodIn_app (goodIn_of _ (by decide +kernel)) ggX2_findLeast_X0_send
set_option maxRecDepth 20000 in
theorem ggX2_findLeast_X2_worth : GoodIn wsX2_findLeast wsX2_worth := goodIn_r _ [59, 1, 60, 61, 62, 8, 63, 11, 46, 42, 43, 44, 45, 64, 65, 66, 67, 68, 69, 70, 71, 87, 88, 89, 97, 98, 99, 100, 101, 102, 103, 104] (by decide +kernel) (by decide +kernel)
set_option maxRecDepth 20000 in
theorem gX2_findLeast_X2_worth : GoodIn wsX2_findLeast (wsV RX2 30 RX2 yX2_worth wsX2_worth) := goodIn_app (goodIn_of _ (by decide +kernel)) ggX2_findLeast_X2_worth
set_option maxRecDepth 20000 in
theorem ggX2_findLeast_X0_overtakings : GoodIn wsX2_findLeast wsX0_overtakings := goodIn_r _ [75, 11, 76, 77, 78, 8, 79, 46, 80, 81, 82, 83, 84, 85, 86, 97, 98, 99, 100, 101, 102, 103, 104] (by decide +kernel) (by decide +kernel)
set_option maxRecDepth 20000 in
theorem gX2_findLeast_X0_overtakings : GoodIn wsX2_findLeast (wsV RX2 42 RX0 yX0_overtakings wsX0_overtakings) := goodIn_app (goodIn_of _ (by decide +kernel)) ggX2_findLeast_X0_overtakings
theorem dX2_findLeast_0 : decode cX2_findLeast 0 = .ok (.aload_n 0, 1) := by decide +kernel
theorem dX2_findLeast_1 : decode cX2_findLeast 1 = .ok (.getfield 12, 3) := by decide +kernel
theorem dX2_findLeast_4 : decode cX2_findLeast 4 = .ok (.aload_n 1, 1) := by decide +kernel
theorem dX2_findLeast_5 : decode cX2_findLeast 5 = .ok (.invokevirtual 18, 3) := by decide +kernel
theorem dX2_findLeast_8 : decode cX2_findLeast 8 = .ok (.aload_n 0, 1) := by decide +kernel
theorem dX2_findLeast_9 : decode cX2_findLeast 9 = .ok (.getfield 12, 3) := by decide +kernel
theorem dX2_findLeast_12 : decode cX2_findLeast 12 = .ok (.iconst 0, 1) := by decide +kernel
theorem dX2_findLeast_13 : decode cX2_findLeast 13 = .ok (.invokevirtual 22, 3) := by decide +kernel
theorem dX2_findLeast_16 : decode cX2_findLeast 16 = .ok (.aload_n 0, 1) := by decide +kernel
theorem dX2_findLeast_17 : decode cX2_findLeast 17 = .ok (.iconst 0, 1) := by decide +kernel
theorem dX2_findLeast_18 : decode cX2_findLeast 18 = .ok (.putfield 26, 3) := by decide +kernel
theorem dX2_findLeast_21 : decode cX2_findLeast 21 = .ok (.aload_n 0, 1) := by decide +kernel
theorem dX2_findLeast_22 : decode cX2_findLeast 22 = .ok (.aload_n 0, 1) := by decide +kernel
theorem dX2_findLeast_23 : decode cX2_findLeast 23 = .ok (.iload_n 2, 1) := by decide +kernel
theorem dX2_findLeast_24 : decode cX2_findLeast 24 = .ok (.invokevirtual 30, 3) := by decide +kernel
theorem dX2_findLeast_27 : decode cX2_findLeast 27 = .ok (.putfield 34, 3) := by decide +kernel
theorem dX2_findLeast_30 : decode cX2_findLeast 30 = .ok (.iconst 1, 1) := by decide +kernel
theorem dX2_findLeast_31 : decode cX2_findLeast 31 = .ok (.aload_n 1, 1) := by decide +kernel
theorem dX2_findLeast_32 : decode cX2_findLeast 32 = .ok (.getfield 37, 3) := by decide +kernel
theorem dX2_findLeast_35 : decode cX2_findLeast 35 = .ok (.ishl, 1) := by decide +kernel
theorem dX2_findLeast_36 : decode cX2_findLeast 36 = .ok (.istore_n 3, 1) := by decide +kernel
theorem dX2_findLeast_37 : decode cX2_findLeast 37 = .ok (.iconst 1, 1) := by decide +kernel
theorem dX2_findLeast_38 : decode cX2_findLeast 38 = .ok (.istore 4, 2) := by decide +kernel
theorem dX2_findLeast_40 : decode cX2_findLeast 40 = .ok (.iload 4, 2) := by decide +kernel
theorem dX2_findLeast_42 : decode cX2_findLeast 42 = .ok (.iload_n 3, 1) := by decide +kernel
theorem dX2_findLeast_43 : decode cX2_findLeast 43 = .ok (.if_icmp .ge 61, 3) := by decide +kernel
theorem dX2_findLeast_46 : decode cX2_findLeast 46 = .ok (.aload_n 0, 1) := by decide +kernel
theorem dX2_findLeast_47 : decode cX2_findLeast 47 = .ok (.getfield 12, 3) := by decide +kernel
theorem dX2_findLeast_50 : decode cX2_findLeast 50 = .ok (.iload 4, 2) := by decide +kernel
theorem dX2_findLeast_52 : decode cX2_findLeast 52 = .ok (.invokevirtual 22, 3) := by decide +kernel
theorem dX2_findLeast_55 : decode cX2_findLeast 55 = .ok (.aload_n 0, 1) := by decide +kernel
theorem dX2_findLeast_56 : decode cX2_findLeast 56 = .ok (.iload_n 2, 1) := by decide +kernel
theorem dX2_findLeast_57 : decode cX2_findLeast 57 = .ok (.invokevirtual 30, 3) := by decide +kernel
theorem dX2_findLeast_60 : decode cX2_findLeast 60 = .ok (.istore 5, 2) := by decide +kernel
theorem dX2_findLeast_62 : decode cX2_findLeast 62 = .ok (.iload 5, 2) := by decide +kernel
theorem dX2_findLeast_64 : decode cX2_findLeast 64 = .ok (.aload_n 0, 1) := by decide +kernel
theorem dX2_findLeast_65 : decode cX2_findLeast 65 = .ok (.getfield 34, 3) := by decide +kernel
