/-! the methods' data are right -/
set_option maxRecDepth 100000 in
theorem mk_X0_init : mu_ok mm_X0_init = true := by decide +kernel
set_option maxRecDepth 100000 in
theorem mk_X0_add : mu_ok mm_X0_add = true := by decide +kernel
set_option maxRecDepth 100000 in
theorem mk_X0_takeFrom : mu_ok mm_X0_takeFrom = true := by decide +kernel
set_option maxRecDepth 100000 in
theorem mk_X0_mostMissed : mu_ok mm_X0_mostMissed = true := by decide +kernel
set_option maxRecDepth 100000 in
theorem mk_X1_init : mu_ok mm_X1_init = true := by decide +kernel
set_option maxRecDepth 100000 in
theorem mk_X1_become : mu_ok mm_X1_become = true := by decide +kernel
set_option maxRecDepth 100000 in
theorem mk_X1_takeFrom : mu_ok mm_X1_takeFrom = true := by decide +kernel
set_option maxRecDepth 100000 in
theorem mk_X1_part : mu_ok mm_X1_part = true := by decide +kernel
set_option maxRecDepth 100000 in
theorem mk_X1_isBlow : mu_ok mm_X1_isBlow = true := by decide +kernel
set_option maxRecDepth 100000 in
theorem mk_X1_isBlowToDo : mu_ok mm_X1_isBlowToDo = true := by decide +kernel
set_option maxRecDepth 100000 in
theorem mk_X1_goesOn : mu_ok mm_X1_goesOn = true := by decide +kernel
set_option maxRecDepth 100000 in
theorem mk_X1_becomeCut : mu_ok mm_X1_becomeCut = true := by decide +kernel
set_option maxRecDepth 100000 in
theorem mk_X1_sharesBeat : mu_ok mm_X1_sharesBeat = true := by decide +kernel
set_option maxRecDepth 100000 in
theorem mk_X1_spanTo : mu_ok mm_X1_spanTo = true := by decide +kernel
set_option maxRecDepth 100000 in
theorem mk_X2_init : mu_ok mm_X2_init = true := by decide +kernel
set_option maxRecDepth 100000 in
theorem mk_X2_takeFrom : mu_ok mm_X2_takeFrom = true := by decide +kernel
set_option maxRecDepth 100000 in
theorem mk_X3_init : mu_ok mm_X3_init = true := by decide +kernel
set_option maxRecDepth 100000 in
theorem mk_X3_read : mu_ok mm_X3_read = true := by decide +kernel
set_option maxRecDepth 100000 in
theorem mk_X3_goOn : mu_ok mm_X3_goOn = true := by decide +kernel
set_option maxRecDepth 100000 in
theorem mk_X3_foundAt : mu_ok mm_X3_foundAt = true := by decide +kernel
set_option maxRecDepth 100000 in
theorem mk_X3_keyHere : mu_ok mm_X3_keyHere = true := by decide +kernel
set_option maxRecDepth 100000 in
theorem mk_X3_isHere : mu_ok mm_X3_isHere = true := by decide +kernel
set_option maxRecDepth 100000 in
theorem mk_X3_tier : mu_ok mm_X3_tier = true := by decide +kernel
set_option maxRecDepth 100000 in
theorem mk_X3_isJoinOf : mu_ok mm_X3_isJoinOf = true := by decide +kernel
set_option maxRecDepth 100000 in
theorem mk_X3_piece : mu_ok mm_X3_piece = true := by decide +kernel
set_option maxRecDepth 100000 in
theorem mk_X3_isSign : mu_ok mm_X3_isSign = true := by decide +kernel
set_option maxRecDepth 100000 in
theorem mk_X3_numberHere : mu_ok mm_X3_numberHere = true := by decide +kernel
set_option maxRecDepth 100000 in
theorem mk_X3_nameHere : mu_ok mm_X3_nameHere = true := by decide +kernel
set_option maxRecDepth 100000 in
theorem mk_X3_note : mu_ok mm_X3_note = true := by decide +kernel
set_option maxRecDepth 100000 in
theorem mk_X4_init : mu_ok mm_X4_init = true := by decide +kernel
set_option maxRecDepth 100000 in
theorem mk_X4_takeFrom : mu_ok mm_X4_takeFrom = true := by decide +kernel
set_option maxRecDepth 100000 in
theorem mk_X4_hasPerson : mu_ok mm_X4_hasPerson = true := by decide +kernel
set_option maxRecDepth 100000 in
theorem mk_X4_hasMove : mu_ok mm_X4_hasMove = true := by decide +kernel
set_option maxRecDepth 100000 in
theorem mk_X4_hasWeapon : mu_ok mm_X4_hasWeapon = true := by decide +kernel
set_option maxRecDepth 100000 in
theorem mk_X4_areTwo : mu_ok mm_X4_areTwo = true := by decide +kernel
set_option maxRecDepth 100000 in
theorem mk_X4_addPerson : mu_ok mm_X4_addPerson = true := by decide +kernel
set_option maxRecDepth 100000 in
theorem mk_X4_tiredTogether : mu_ok mm_X4_tiredTogether = true := by decide +kernel
set_option maxRecDepth 100000 in
theorem mk_X4_cutMoves : mu_ok mm_X4_cutMoves = true := by decide +kernel
set_option maxRecDepth 100000 in
theorem mk_X4_blows : mu_ok mm_X4_blows = true := by decide +kernel
set_option maxRecDepth 100000 in
theorem mk_X4_meetsAnother : mu_ok mm_X4_meetsAnother = true := by decide +kernel
set_option maxRecDepth 100000 in
theorem mk_X4_nextGoing : mu_ok mm_X4_nextGoing = true := by decide +kernel
set_option maxRecDepth 100000 in
theorem mk_X4_unreadyBlows : mu_ok mm_X4_unreadyBlows = true := by decide +kernel
set_option maxRecDepth 100000 in
theorem mk_X4_isUnready : mu_ok mm_X4_isUnready = true := by decide +kernel
set_option maxRecDepth 100000 in
theorem mk_X4_lawOf : mu_ok mm_X4_lawOf = true := by decide +kernel
set_option maxRecDepth 100000 in
theorem mk_X4_lateOf : mu_ok mm_X4_lateOf = true := by decide +kernel
set_option maxRecDepth 100000 in
theorem mk_X4_isBarred : mu_ok mm_X4_isBarred = true := by decide +kernel
set_option maxRecDepth 100000 in
theorem mk_X4_hasBarred : mu_ok mm_X4_hasBarred = true := by decide +kernel
set_option maxRecDepth 100000 in
theorem mk_X4_hoursNeeded : mu_ok mm_X4_hoursNeeded = true := by decide +kernel
set_option maxRecDepth 100000 in
theorem mk_X4_lacksHours : mu_ok mm_X4_lacksHours = true := by decide +kernel
set_option maxRecDepth 100000 in
theorem mk_X4_chosenPlace : mu_ok mm_X4_chosenPlace = true := by decide +kernel
set_option maxRecDepth 100000 in
theorem mk_X4_isDull : mu_ok mm_X4_isDull = true := by decide +kernel
set_option maxRecDepth 100000 in
theorem mk_X4_weaponOf : mu_ok mm_X4_weaponOf = true := by decide +kernel
set_option maxRecDepth 100000 in
theorem mk_X4_weaponsOut : mu_ok mm_X4_weaponsOut = true := by decide +kernel
set_option maxRecDepth 100000 in
theorem mk_X4_endShow : mu_ok mm_X4_endShow = true := by decide +kernel
set_option maxRecDepth 100000 in
theorem mk_X4_tireAndWear : mu_ok mm_X4_tireAndWear = true := by decide +kernel
set_option maxRecDepth 100000 in
theorem mk_X5_init : mu_ok mm_X5_init = true := by decide +kernel
set_option maxRecDepth 100000 in
theorem mk_X5_isMissing : mu_ok mm_X5_isMissing = true := by decide +kernel
set_option maxRecDepth 100000 in
theorem mk_X5_become : mu_ok mm_X5_become = true := by decide +kernel
set_option maxRecDepth 100000 in
theorem mk_X5_takeFrom : mu_ok mm_X5_takeFrom = true := by decide +kernel
set_option maxRecDepth 100000 in
theorem mk_X5_hasPlace : mu_ok mm_X5_hasPlace = true := by decide +kernel
set_option maxRecDepth 100000 in
theorem mk_X5_hasPlaces : mu_ok mm_X5_hasPlaces = true := by decide +kernel
set_option maxRecDepth 100000 in
theorem mk_X5_put : mu_ok mm_X5_put = true := by decide +kernel
set_option maxRecDepth 100000 in
theorem mk_X6_init : mu_ok mm_X6_init = true := by decide +kernel
set_option maxRecDepth 100000 in
theorem mk_X6_seek : mu_ok mm_X6_seek = true := by decide +kernel
set_option maxRecDepth 100000 in
theorem mk_X6_moveOn : mu_ok mm_X6_moveOn = true := by decide +kernel
set_option maxRecDepth 100000 in
theorem mk_X6_isToTry : mu_ok mm_X6_isToTry = true := by decide +kernel
set_option maxRecDepth 100000 in
theorem mk_X6_stands : mu_ok mm_X6_stands = true := by decide +kernel
set_option maxRecDepth 100000 in
theorem mk_X7_init : mu_ok mm_X7_init = true := by decide +kernel
set_option maxRecDepth 100000 in
theorem mk_X7_findingOn : mu_ok mm_X7_findingOn = true := by decide +kernel
set_option maxRecDepth 100000 in
theorem mk_X8_init : mu_ok mm_X8_init = true := by decide +kernel
set_option maxRecDepth 100000 in
theorem mk_X8_look : mu_ok mm_X8_look = true := by decide +kernel
set_option maxRecDepth 100000 in
theorem mk_X8_trace : mu_ok mm_X8_trace = true := by decide +kernel
set_option maxRecDepth 100000 in
theorem mk_X8_stay : mu_ok mm_X8_stay = true := by decide +kernel
set_option maxRecDepth 100000 in
theorem mk_X8_go : mu_ok mm_X8_go = true := by decide +kernel
set_option maxRecDepth 100000 in
theorem mk_X8_spotAt : mu_ok mm_X8_spotAt = true := by decide +kernel
set_option maxRecDepth 100000 in
theorem mk_X8_placeAt : mu_ok mm_X8_placeAt = true := by decide +kernel
set_option maxRecDepth 100000 in
theorem mk_X8_leastGap : mu_ok mm_X8_leastGap = true := by decide +kernel
set_option maxRecDepth 100000 in
theorem mk_X8_gapTo : mu_ok mm_X8_gapTo = true := by decide +kernel
set_option maxRecDepth 100000 in
theorem mk_X8_tooNearTo : mu_ok mm_X8_tooNearTo = true := by decide +kernel
set_option maxRecDepth 100000 in
theorem mk_X8_firstBreach : mu_ok mm_X8_firstBreach = true := by decide +kernel
set_option maxRecDepth 100000 in
theorem mk_X8_isSeen : mu_ok mm_X8_isSeen = true := by decide +kernel
set_option maxRecDepth 100000 in
theorem mk_X8_play : mu_ok mm_X8_play = true := by decide +kernel
set_option maxRecDepth 100000 in
theorem mk_X8_missesOf : mu_ok mm_X8_missesOf = true := by decide +kernel
set_option maxRecDepth 100000 in
theorem mk_X9_init : mu_ok mm_X9_init = true := by decide +kernel
set_option maxRecDepth 100000 in
theorem mk_X9_value : mu_ok mm_X9_value = true := by decide +kernel
set_option maxRecDepth 100000 in
theorem mk_X9_named : mu_ok mm_X9_named = true := by decide +kernel
set_option maxRecDepth 100000 in
theorem mk_X9_joined : mu_ok mm_X9_joined = true := by decide +kernel
set_option maxRecDepth 100000 in
theorem mk_X10_init : mu_ok mm_X10_init = true := by decide +kernel
set_option maxRecDepth 100000 in
theorem mk_X10_person : mu_ok mm_X10_person = true := by decide +kernel
set_option maxRecDepth 100000 in
theorem mk_X10_told : mu_ok mm_X10_told = true := by decide +kernel
set_option maxRecDepth 100000 in
theorem mk_X10_set : mu_ok mm_X10_set = true := by decide +kernel
set_option maxRecDepth 100000 in
theorem mk_X10_move : mu_ok mm_X10_move = true := by decide +kernel
set_option maxRecDepth 100000 in
theorem mk_X10_of : mu_ok mm_X10_of = true := by decide +kernel
set_option maxRecDepth 100000 in
theorem mk_X10_as : mu_ok mm_X10_as = true := by decide +kernel
set_option maxRecDepth 100000 in
theorem mk_X10_cut : mu_ok mm_X10_cut = true := by decide +kernel
set_option maxRecDepth 100000 in
theorem mk_X10_wet : mu_ok mm_X10_wet = true := by decide +kernel
set_option maxRecDepth 100000 in
theorem mk_X10_where : mu_ok mm_X10_where = true := by decide +kernel
set_option maxRecDepth 100000 in
theorem mk_X10_gap : mu_ok mm_X10_gap = true := by decide +kernel
set_option maxRecDepth 100000 in
theorem mk_X10_keeps : mu_ok mm_X10_keeps = true := by decide +kernel
set_option maxRecDepth 100000 in
theorem mk_X10_breach : mu_ok mm_X10_breach = true := by decide +kernel
set_option maxRecDepth 100000 in
theorem mk_X10_sign : mu_ok mm_X10_sign = true := by decide +kernel
set_option maxRecDepth 100000 in
theorem mk_X10_unready : mu_ok mm_X10_unready = true := by decide +kernel
set_option maxRecDepth 100000 in
theorem mk_X10_seen : mu_ok mm_X10_seen = true := by decide +kernel
set_option maxRecDepth 100000 in
theorem mk_X10_story : mu_ok mm_X10_story = true := by decide +kernel
set_option maxRecDepth 100000 in
theorem mk_X10_feed : mu_ok mm_X10_feed = true := by decide +kernel
set_option maxRecDepth 100000 in
theorem mk_X10_trim : mu_ok mm_X10_trim = true := by decide +kernel
set_option maxRecDepth 100000 in
theorem mk_X10_text : mu_ok mm_X10_text = true := by decide +kernel
set_option maxRecDepth 100000 in
theorem mk_X10_textTold : mu_ok mm_X10_textTold = true := by decide +kernel
set_option maxRecDepth 100000 in
theorem mk_X10_hours : mu_ok mm_X10_hours = true := by decide +kernel
set_option maxRecDepth 100000 in
theorem mk_X10_practise : mu_ok mm_X10_practise = true := by decide +kernel
set_option maxRecDepth 100000 in
theorem mk_X10_may : mu_ok mm_X10_may = true := by decide +kernel
set_option maxRecDepth 100000 in
theorem mk_X10_choose : mu_ok mm_X10_choose = true := by decide +kernel
set_option maxRecDepth 100000 in
theorem mk_X10_clear : mu_ok mm_X10_clear = true := by decide +kernel
set_option maxRecDepth 100000 in
theorem mk_X10_understudy : mu_ok mm_X10_understudy = true := by decide +kernel
set_option maxRecDepth 100000 in
theorem mk_X10_shifts : mu_ok mm_X10_shifts = true := by decide +kernel
set_option maxRecDepth 100000 in
theorem mk_X10_shift : mu_ok mm_X10_shift = true := by decide +kernel
set_option maxRecDepth 100000 in
theorem mk_X10_weapon : mu_ok mm_X10_weapon = true := by decide +kernel
set_option maxRecDepth 100000 in
theorem mk_X10_out : mu_ok mm_X10_out = true := by decide +kernel
set_option maxRecDepth 100000 in
theorem mk_X10_in : mu_ok mm_X10_in = true := by decide +kernel
set_option maxRecDepth 100000 in
theorem mk_X10_wear : mu_ok mm_X10_wear = true := by decide +kernel
set_option maxRecDepth 100000 in
theorem mk_X10_seed : mu_ok mm_X10_seed = true := by decide +kernel
set_option maxRecDepth 100000 in
theorem mk_X10_show : mu_ok mm_X10_show = true := by decide +kernel
set_option maxRecDepth 100000 in
theorem mk_X10_restAll : mu_ok mm_X10_restAll = true := by decide +kernel
set_option maxRecDepth 100000 in
theorem mk_X10_log : mu_ok mm_X10_log = true := by decide +kernel
set_option maxRecDepth 100000 in
theorem mk_X10_led : mu_ok mm_X10_led = true := by decide +kernel
set_option maxRecDepth 100000 in
theorem mk_X10_sheet : mu_ok mm_X10_sheet = true := by decide +kernel
set_option maxRecDepth 100000 in
theorem mk_X10_mark : mu_ok mm_X10_mark = true := by decide +kernel
set_option maxRecDepth 100000 in
theorem mk_X10_cuts : mu_ok mm_X10_cuts = true := by decide +kernel
set_option maxRecDepth 100000 in
theorem mk_X10_copy : mu_ok mm_X10_copy = true := by decide +kernel
set_option maxRecDepth 100000 in
theorem mk_X10_lay : mu_ok mm_X10_lay = true := by decide +kernel
set_option maxRecDepth 100000 in
theorem mk_X10_ask : mu_ok mm_X10_ask = true := by decide +kernel
set_option maxRecDepth 100000 in
theorem mk_X10_item : mu_ok mm_X10_item = true := by decide +kernel
set_option maxRecDepth 100000 in
theorem mk_X10_rest : mu_ok mm_X10_rest = true := by decide +kernel
set_option maxRecDepth 100000 in
theorem mk_X10_tell : mu_ok mm_X10_tell = true := by decide +kernel
set_option maxRecDepth 100000 in
theorem mk_X10_check : mu_ok mm_X10_check = true := by decide +kernel
set_option maxRecDepth 100000 in
theorem mk_X10_keep : mu_ok mm_X10_keep = true := by decide +kernel
set_option maxRecDepth 100000 in
theorem mk_X10_back : mu_ok mm_X10_back = true := by decide +kernel
set_option maxRecDepth 100000 in
theorem mk_X10_count : mu_ok mm_X10_count = true := by decide +kernel
set_option maxRecDepth 100000 in
theorem mk_X10_refusalOfBlow : mu_ok mm_X10_refusalOfBlow = true := by decide +kernel
set_option maxRecDepth 100000 in
theorem mk_X10_feedOne : mu_ok mm_X10_feedOne = true := by decide +kernel
set_option maxRecDepth 100000 in
theorem mk_X10_isWithin : mu_ok mm_X10_isWithin = true := by decide +kernel
set_option maxRecDepth 100000 in
theorem mk_X10_held : mu_ok mm_X10_held = true := by decide +kernel
set_option maxRecDepth 100000 in
theorem mk_X10_asInt : mu_ok mm_X10_asInt = true := by decide +kernel
set_option maxRecDepth 100000 in
theorem mk_X10_isPlace : mu_ok mm_X10_isPlace = true := by decide +kernel
set_option maxRecDepth 100000 in
theorem mk_X10_isTime : mu_ok mm_X10_isTime = true := by decide +kernel
set_option maxRecDepth 100000 in
theorem mk_X10_isKind : mu_ok mm_X10_isKind = true := by decide +kernel
set_option maxRecDepth 100000 in
theorem mk_X10_isOfKind : mu_ok mm_X10_isOfKind = true := by decide +kernel
set_option maxRecDepth 100000 in
theorem mk_X10_isSheet : mu_ok mm_X10_isSheet = true := by decide +kernel
set_option maxRecDepth 100000 in
theorem mk_X10_isSlot : mu_ok mm_X10_isSlot = true := by decide +kernel
set_option maxRecDepth 100000 in
theorem mk_X11_init : mu_ok mm_X11_init = true := by decide +kernel
set_option maxRecDepth 100000 in
theorem mk_X11_isIn : mu_ok mm_X11_isIn = true := by decide +kernel
set_option maxRecDepth 100000 in
theorem mk_X11_orNone : mu_ok mm_X11_orNone = true := by decide +kernel
set_option maxRecDepth 100000 in
theorem mk_X11_least : mu_ok mm_X11_least = true := by decide +kernel
set_option maxRecDepth 100000 in
theorem mk_X11_heldIn : mu_ok mm_X11_heldIn = true := by decide +kernel
set_option maxRecDepth 100000 in
theorem mk_X11_becomes : mu_ok mm_X11_becomes = true := by decide +kernel
set_option maxRecDepth 100000 in
theorem mk_X11_personAt : mu_ok mm_X11_personAt = true := by decide +kernel
set_option maxRecDepth 100000 in
theorem mk_X11_moveAt : mu_ok mm_X11_moveAt = true := by decide +kernel
set_option maxRecDepth 100000 in
theorem mk_X11_weaponAt : mu_ok mm_X11_weaponAt = true := by decide +kernel
set_option maxRecDepth 100000 in
theorem mk_X11_textAt : mu_ok mm_X11_textAt = true := by decide +kernel
set_option maxRecDepth 100000 in
theorem mk_X11_isPerson : mu_ok mm_X11_isPerson = true := by decide +kernel
set_option maxRecDepth 100000 in
theorem mk_X11_isMove : mu_ok mm_X11_isMove = true := by decide +kernel
set_option maxRecDepth 100000 in
theorem mk_X11_isWeapon : mu_ok mm_X11_isWeapon = true := by decide +kernel
set_option maxRecDepth 100000 in
theorem mk_X11_isText : mu_ok mm_X11_isText = true := by decide +kernel
set_option maxRecDepth 100000 in
theorem mk_X11_isPlace : mu_ok mm_X11_isPlace = true := by decide +kernel
set_option maxRecDepth 100000 in
theorem mk_X11_field : mu_ok mm_X11_field = true := by decide +kernel
set_option maxRecDepth 100000 in
theorem mk_X11_isBlowKind : mu_ok mm_X11_isBlowKind = true := by decide +kernel
set_option maxRecDepth 100000 in
theorem mk_X11_isBlow : mu_ok mm_X11_isBlow = true := by decide +kernel
set_option maxRecDepth 100000 in
theorem mk_X11_isDone : mu_ok mm_X11_isDone = true := by decide +kernel
set_option maxRecDepth 100000 in
theorem mk_X11_person : mu_ok mm_X11_person = true := by decide +kernel
set_option maxRecDepth 100000 in
theorem mk_X11_lateOf : mu_ok mm_X11_lateOf = true := by decide +kernel
set_option maxRecDepth 100000 in
theorem mk_X11_told : mu_ok mm_X11_told = true := by decide +kernel
set_option maxRecDepth 100000 in
theorem mk_X11_set : mu_ok mm_X11_set = true := by decide +kernel
set_option maxRecDepth 100000 in
theorem mk_X11_meet : mu_ok mm_X11_meet = true := by decide +kernel
set_option maxRecDepth 100000 in
theorem mk_X11_move : mu_ok mm_X11_move = true := by decide +kernel
set_option maxRecDepth 100000 in
theorem mk_X11_isBarred : mu_ok mm_X11_isBarred = true := by decide +kernel
set_option maxRecDepth 100000 in
theorem mk_X11_of : mu_ok mm_X11_of = true := by decide +kernel
set_option maxRecDepth 100000 in
theorem mk_X11_isOf : mu_ok mm_X11_isOf = true := by decide +kernel
set_option maxRecDepth 100000 in
theorem mk_X11_as : mu_ok mm_X11_as = true := by decide +kernel
set_option maxRecDepth 100000 in
theorem mk_X11_cut : mu_ok mm_X11_cut = true := by decide +kernel
set_option maxRecDepth 100000 in
theorem mk_X11_wet : mu_ok mm_X11_wet = true := by decide +kernel
set_option maxRecDepth 100000 in
theorem mk_X11_findOrder : mu_ok mm_X11_findOrder = true := by decide +kernel
set_option maxRecDepth 100000 in
theorem mk_X11_between : mu_ok mm_X11_between = true := by decide +kernel
set_option maxRecDepth 100000 in
theorem mk_X11_stale : mu_ok mm_X11_stale = true := by decide +kernel
set_option maxRecDepth 100000 in
theorem mk_X11_findPlaces : mu_ok mm_X11_findPlaces = true := by decide +kernel
set_option maxRecDepth 100000 in
theorem mk_X11_placeOf : mu_ok mm_X11_placeOf = true := by decide +kernel
set_option maxRecDepth 100000 in
theorem mk_X11_where : mu_ok mm_X11_where = true := by decide +kernel
set_option maxRecDepth 100000 in
theorem mk_X11_distance : mu_ok mm_X11_distance = true := by decide +kernel
set_option maxRecDepth 100000 in
theorem mk_X11_near : mu_ok mm_X11_near = true := by decide +kernel
set_option maxRecDepth 100000 in
theorem mk_X11_findLates : mu_ok mm_X11_findLates = true := by decide +kernel
set_option maxRecDepth 100000 in
theorem mk_X11_gapOf : mu_ok mm_X11_gapOf = true := by decide +kernel
set_option maxRecDepth 100000 in
theorem mk_X11_wanted : mu_ok mm_X11_wanted = true := by decide +kernel
set_option maxRecDepth 100000 in
theorem mk_X11_broken : mu_ok mm_X11_broken = true := by decide +kernel
set_option maxRecDepth 100000 in
theorem mk_X11_gap : mu_ok mm_X11_gap = true := by decide +kernel
set_option maxRecDepth 100000 in
theorem mk_X11_keeps : mu_ok mm_X11_keeps = true := by decide +kernel
set_option maxRecDepth 100000 in
theorem mk_X11_firstBreach : mu_ok mm_X11_firstBreach = true := by decide +kernel
set_option maxRecDepth 100000 in
theorem mk_X11_breach : mu_ok mm_X11_breach = true := by decide +kernel
set_option maxRecDepth 100000 in
theorem mk_X11_sign : mu_ok mm_X11_sign = true := by decide +kernel
set_option maxRecDepth 100000 in
theorem mk_X11_isUnready : mu_ok mm_X11_isUnready = true := by decide +kernel
set_option maxRecDepth 100000 in
theorem mk_X11_unready : mu_ok mm_X11_unready = true := by decide +kernel
set_option maxRecDepth 100000 in
theorem mk_X11_isSeen : mu_ok mm_X11_isSeen = true := by decide +kernel
set_option maxRecDepth 100000 in
theorem mk_X11_seen : mu_ok mm_X11_seen = true := by decide +kernel
set_option maxRecDepth 100000 in
theorem mk_X11_story : mu_ok mm_X11_story = true := by decide +kernel
set_option maxRecDepth 100000 in
theorem mk_X11_feed : mu_ok mm_X11_feed = true := by decide +kernel
set_option maxRecDepth 100000 in
theorem mk_X11_trim : mu_ok mm_X11_trim = true := by decide +kernel
set_option maxRecDepth 100000 in
theorem mk_X11_isLetter : mu_ok mm_X11_isLetter = true := by decide +kernel
set_option maxRecDepth 100000 in
theorem mk_X11_isDigit : mu_ok mm_X11_isDigit = true := by decide +kernel
set_option maxRecDepth 100000 in
theorem mk_X11_next : mu_ok mm_X11_next = true := by decide +kernel
set_option maxRecDepth 100000 in
theorem mk_X11_isSign : mu_ok mm_X11_isSign = true := by decide +kernel
set_option maxRecDepth 100000 in
theorem mk_X11_isWordAt : mu_ok mm_X11_isWordAt = true := by decide +kernel
set_option maxRecDepth 100000 in
theorem mk_X11_isLong : mu_ok mm_X11_isLong = true := by decide +kernel
set_option maxRecDepth 100000 in
theorem mk_X11_key : mu_ok mm_X11_key = true := by decide +kernel
set_option maxRecDepth 100000 in
theorem mk_X11_isName : mu_ok mm_X11_isName = true := by decide +kernel
set_option maxRecDepth 100000 in
theorem mk_X11_step : mu_ok mm_X11_step = true := by decide +kernel
set_option maxRecDepth 100000 in
theorem mk_X11_either : mu_ok mm_X11_either = true := by decide +kernel
set_option maxRecDepth 100000 in
theorem mk_X11_both : mu_ok mm_X11_both = true := by decide +kernel
set_option maxRecDepth 100000 in
theorem mk_X11_test : mu_ok mm_X11_test = true := by decide +kernel
set_option maxRecDepth 100000 in
theorem mk_X11_sum : mu_ok mm_X11_sum = true := by decide +kernel
set_option maxRecDepth 100000 in
theorem mk_X11_term : mu_ok mm_X11_term = true := by decide +kernel
set_option maxRecDepth 100000 in
theorem mk_X11_part0 : mu_ok mm_X11_part0 = true := by decide +kernel
set_option maxRecDepth 100000 in
theorem mk_X11_parse : mu_ok mm_X11_parse = true := by decide +kernel
set_option maxRecDepth 100000 in
theorem mk_X11_text : mu_ok mm_X11_text = true := by decide +kernel
set_option maxRecDepth 100000 in
theorem mk_X11_textTold : mu_ok mm_X11_textTold = true := by decide +kernel
set_option maxRecDepth 100000 in
theorem mk_X11_counts : mu_ok mm_X11_counts = true := by decide +kernel
set_option maxRecDepth 100000 in
theorem mk_X11_joined : mu_ok mm_X11_joined = true := by decide +kernel
set_option maxRecDepth 100000 in
theorem mk_X11_worked : mu_ok mm_X11_worked = true := by decide +kernel
set_option maxRecDepth 100000 in
theorem mk_X11_needs : mu_ok mm_X11_needs = true := by decide +kernel
set_option maxRecDepth 100000 in
theorem mk_X11_isTwo : mu_ok mm_X11_isTwo = true := by decide +kernel
set_option maxRecDepth 100000 in
theorem mk_X11_hours : mu_ok mm_X11_hours = true := by decide +kernel
set_option maxRecDepth 100000 in
theorem mk_X11_practise : mu_ok mm_X11_practise = true := by decide +kernel
set_option maxRecDepth 100000 in
theorem mk_X11_lacksHours : mu_ok mm_X11_lacksHours = true := by decide +kernel
set_option maxRecDepth 100000 in
theorem mk_X11_hasBarred : mu_ok mm_X11_hasBarred = true := by decide +kernel
set_option maxRecDepth 100000 in
theorem mk_X11_may : mu_ok mm_X11_may = true := by decide +kernel
set_option maxRecDepth 100000 in
theorem mk_X11_choose : mu_ok mm_X11_choose = true := by decide +kernel
set_option maxRecDepth 100000 in
theorem mk_X11_clear : mu_ok mm_X11_clear = true := by decide +kernel
set_option maxRecDepth 100000 in
theorem mk_X11_choiceOf : mu_ok mm_X11_choiceOf = true := by decide +kernel
set_option maxRecDepth 100000 in
theorem mk_X11_understudy : mu_ok mm_X11_understudy = true := by decide +kernel
set_option maxRecDepth 100000 in
theorem mk_X11_shiftable : mu_ok mm_X11_shiftable = true := by decide +kernel
set_option maxRecDepth 100000 in
theorem mk_X11_isApart : mu_ok mm_X11_isApart = true := by decide +kernel
set_option maxRecDepth 100000 in
theorem mk_X11_holds : mu_ok mm_X11_holds = true := by decide +kernel
set_option maxRecDepth 100000 in
theorem mk_X11_findShifts : mu_ok mm_X11_findShifts = true := by decide +kernel
set_option maxRecDepth 100000 in
theorem mk_X11_shifts : mu_ok mm_X11_shifts = true := by decide +kernel
set_option maxRecDepth 100000 in
theorem mk_X11_shift : mu_ok mm_X11_shift = true := by decide +kernel
set_option maxRecDepth 100000 in
theorem mk_X11_weapon : mu_ok mm_X11_weapon = true := by decide +kernel
set_option maxRecDepth 100000 in
theorem mk_X11_out : mu_ok mm_X11_out = true := by decide +kernel
set_option maxRecDepth 100000 in
theorem mk_X11_in : mu_ok mm_X11_in = true := by decide +kernel
set_option maxRecDepth 100000 in
theorem mk_X11_wear : mu_ok mm_X11_wear = true := by decide +kernel
set_option maxRecDepth 100000 in
theorem mk_X11_seed : mu_ok mm_X11_seed = true := by decide +kernel
set_option maxRecDepth 100000 in
theorem mk_X11_logs : mu_ok mm_X11_logs = true := by decide +kernel
set_option maxRecDepth 100000 in
theorem mk_X11_tire : mu_ok mm_X11_tire = true := by decide +kernel
set_option maxRecDepth 100000 in
theorem mk_X11_oneShow : mu_ok mm_X11_oneShow = true := by decide +kernel
set_option maxRecDepth 100000 in
theorem mk_X11_show : mu_ok mm_X11_show = true := by decide +kernel
set_option maxRecDepth 100000 in
theorem mk_X11_restAll : mu_ok mm_X11_restAll = true := by decide +kernel
set_option maxRecDepth 100000 in
theorem mk_X11_log : mu_ok mm_X11_log = true := by decide +kernel
set_option maxRecDepth 100000 in
theorem mk_X11_missesOf : mu_ok mm_X11_missesOf = true := by decide +kernel
set_option maxRecDepth 100000 in
theorem mk_X11_led : mu_ok mm_X11_led = true := by decide +kernel
set_option maxRecDepth 100000 in
theorem mk_X11_isSheet : mu_ok mm_X11_isSheet = true := by decide +kernel
set_option maxRecDepth 100000 in
theorem mk_X11_sheet : mu_ok mm_X11_sheet = true := by decide +kernel
set_option maxRecDepth 100000 in
theorem mk_X11_mark : mu_ok mm_X11_mark = true := by decide +kernel
set_option maxRecDepth 100000 in
theorem mk_X11_cuts : mu_ok mm_X11_cuts = true := by decide +kernel
set_option maxRecDepth 100000 in
theorem mk_X11_copy : mu_ok mm_X11_copy = true := by decide +kernel
set_option maxRecDepth 100000 in
theorem mk_X11_isSlot : mu_ok mm_X11_isSlot = true := by decide +kernel
set_option maxRecDepth 100000 in
theorem mk_X11_lay : mu_ok mm_X11_lay = true := by decide +kernel
set_option maxRecDepth 100000 in
theorem mk_X11_ask : mu_ok mm_X11_ask = true := by decide +kernel
set_option maxRecDepth 100000 in
theorem mk_X11_item : mu_ok mm_X11_item = true := by decide +kernel
set_option maxRecDepth 100000 in
theorem mk_X11_rest : mu_ok mm_X11_rest = true := by decide +kernel
set_option maxRecDepth 100000 in
theorem mk_X11_tell : mu_ok mm_X11_tell = true := by decide +kernel
set_option maxRecDepth 100000 in
theorem mk_X11_setAside : mu_ok mm_X11_setAside = true := by decide +kernel
set_option maxRecDepth 100000 in
theorem mk_X11_check : mu_ok mm_X11_check = true := by decide +kernel
set_option maxRecDepth 100000 in
theorem mk_X11_keep : mu_ok mm_X11_keep = true := by decide +kernel
set_option maxRecDepth 100000 in
theorem mk_X11_back : mu_ok mm_X11_back = true := by decide +kernel
set_option maxRecDepth 100000 in
theorem mk_X11_count : mu_ok mm_X11_count = true := by decide +kernel
set_option maxRecDepth 100000 in
theorem mk_J0_length_8abf5 : mu_ok mm_J0_length_8abf5 = true := by decide +kernel
set_option maxRecDepth 100000 in
theorem mk_J0_charAt_5068e : mu_ok mm_J0_charAt_5068e = true := by decide +kernel
set_option maxRecDepth 100000 in
theorem mk_J0_indexOf_0f7a4 : mu_ok mm_J0_indexOf_0f7a4 = true := by decide +kernel
set_option maxRecDepth 100000 in
theorem mk_J0_indexOf_7cf53 : mu_ok mm_J0_indexOf_7cf53 = true := by decide +kernel
set_option maxRecDepth 100000 in
theorem mk_J0_coder_7d493 : mu_ok mm_J0_coder_7d493 = true := by decide +kernel
set_option maxRecDepth 100000 in
theorem mk_J0_isLatin1_aae02 : mu_ok mm_J0_isLatin1_aae02 = true := by decide +kernel
set_option maxRecDepth 100000 in
theorem mk_J0_checkIndex_df160 : mu_ok mm_J0_checkIndex_df160 = true := by decide +kernel
set_option maxRecDepth 100000 in
theorem mk_J1_charAt_3b067 : mu_ok mm_J1_charAt_3b067 = true := by decide +kernel
set_option maxRecDepth 100000 in
theorem mk_J1_canEncode_9a6ad : mu_ok mm_J1_canEncode_9a6ad = true := by decide +kernel
set_option maxRecDepth 100000 in
theorem mk_J1_indexOf_4cfef : mu_ok mm_J1_indexOf_4cfef = true := by decide +kernel
set_option maxRecDepth 100000 in
theorem mk_J1_indexOfChar_4cfef : mu_ok mm_J1_indexOfChar_4cfef = true := by decide +kernel
set_option maxRecDepth 100000 in
theorem mk_J7_copyOf_59c91 : mu_ok mm_J7_copyOf_59c91 = true := by decide +kernel
set_option maxRecDepth 100000 in
theorem mk_J3_checkIndex_8e157 : mu_ok mm_J3_checkIndex_8e157 = true := by decide +kernel
