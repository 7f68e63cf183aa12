abbrev KX0_init : KT := (yX0_init, cX0_init, 1, none)
abbrev KX0_perform : KT := (yX0_perform, cX0_perform, 11, (some .int))
abbrev KX0_begin : KT := (yX0_begin, cX0_begin, 2, none)
abbrev KX1_init : KT := (yX1_init, cX1_init, 2, none)
abbrev KX1_comeToLife : KT := (yX1_comeToLife, cX1_comeToLife, 6, none)
abbrev KX1_become : KT := (yX1_become, cX1_become, 2, none)
abbrev KX1_isHereAt : KT := (yX1_isHereAt, cX1_isHereAt, 2, (some .boolean))
abbrev KX1_ageIn : KT := (yX1_ageIn, cX1_ageIn, 3, (some .int))
abbrev KX1_ageHad : KT := (yX1_ageHad, cX1_ageHad, 6, (some .int))
abbrev KX2_init : KT := (yX2_init, cX2_init, 4, none)
abbrev KX2_readVillage : KT := (yX2_readVillage, cX2_readVillage, 2, (some .boolean))
abbrev KX2_readClause : KT := (yX2_readClause, cX2_readClause, 3, (some .boolean))
abbrev KX2_readEither : KT := (yX2_readEither, cX2_readEither, 5, (some .boolean))
abbrev KX2_readFactor : KT := (yX2_readFactor, cX2_readFactor, 3, (some .boolean))
abbrev KX2_readTest : KT := (yX2_readTest, cX2_readTest, 4, (some .boolean))
abbrev KX2_readNumber : KT := (yX2_readNumber, cX2_readNumber, 3, (some .int))
abbrev KX2_readOneOf : KT := (yX2_readOneOf, cX2_readOneOf, 3, (some .int))
abbrev KX2_takesAll : KT := (yX2_takesAll, cX2_takesAll, 3, (some .boolean))
abbrev KX2_takes : KT := (yX2_takes, cX2_takes, 2, (some .boolean))
abbrev KX3_init : KT := (yX3_init, cX3_init, 2, none)
abbrev KX3_empty : KT := (yX3_empty, cX3_empty, 1, (some .int))
abbrev KX3_add : KT := (yX3_add, cX3_add, 4, (some .int))
abbrev KX3_become : KT := (yX3_become, cX3_become, 3, none)
abbrev KX4_init : KT := (yX4_init, cX4_init, 2, none)
abbrev KX4_answer : KT := (yX4_answer, cX4_answer, 6, (some .int))
abbrev KX4_begin : KT := (yX4_begin, cX4_begin, 3, none)
abbrev KX4_result : KT := (yX4_result, cX4_result, 2, (some .int))
abbrev KX4_layChoices : KT := (yX4_layChoices, cX4_layChoices, 6, none)
abbrev KX4_isWasted : KT := (yX4_isWasted, cX4_isWasted, 3, (some .boolean))
abbrev KX4_lookAhead : KT := (yX4_lookAhead, cX4_lookAhead, 6, none)
abbrev KX4_sit : KT := (yX4_sit, cX4_sit, 9, none)
abbrev KX4_leastCost : KT := (yX4_leastCost, cX4_leastCost, 5, (some .int))
abbrev KX4_isBetter : KT := (yX4_isBetter, cX4_isBetter, 3, (some .boolean))
abbrev KX4_keep : KT := (yX4_keep, cX4_keep, 3, none)
abbrev KX5_init : KT := (yX5_init, cX5_init, 1, none)
abbrev KX5_forget : KT := (yX5_forget, cX5_forget, 1, none)
abbrev KX5_addStep : KT := (yX5_addStep, cX5_addStep, 2, none)
abbrev KX5_testStep : KT := (yX5_testStep, cX5_testStep, 3, (some .int))
abbrev KX5_endClause : KT := (yX5_endClause, cX5_endClause, 2, none)
abbrev KX5_nerveFor : KT := (yX5_nerveFor, cX5_nerveFor, 5, (some .int))
abbrev KX5_holdsFor : KT := (yX5_holdsFor, cX5_holdsFor, 7, (some .boolean))
abbrev KX5_passes : KT := (yX5_passes, cX5_passes, 4, (some .boolean))
abbrev KX6_init : KT := (yX6_init, cX6_init, 3, none)
abbrev KX6_become : KT := (yX6_become, cX6_become, 3, none)
abbrev KX6_addVintage : KT := (yX6_addVintage, cX6_addVintage, 3, (some .int))
abbrev KX6_ageBy : KT := (yX6_ageBy, cX6_ageBy, 3, (some .int))
abbrev KX6_stageBy : KT := (yX6_stageBy, cX6_stageBy, 3, (some .int))
abbrev KX6_stageAt : KT := (yX6_stageAt, cX6_stageAt, 3, (some .int))
abbrev KX6_nerveBy : KT := (yX6_nerveBy, cX6_nerveBy, 5, (some .int))
abbrev KX6_whoIsHere : KT := (yX6_whoIsHere, cX6_whoIsHere, 3, (some .int))
abbrev KX6_nerveOfAll : KT := (yX6_nerveOfAll, cX6_nerveOfAll, 3, (some .int))
abbrev KX6_bottlesInAll : KT := (yX6_bottlesInAll, cX6_bottlesInAll, 3, (some .int))
abbrev KX6_pourOut : KT := (yX6_pourOut, cX6_pourOut, 3, (some .boolean))
abbrev KX6_growLight : KT := (yX6_growLight, cX6_growLight, 3, none)
abbrev KX6_liveThroughNight : KT := (yX6_liveThroughNight, cX6_liveThroughNight, 2, none)
abbrev KX6_isAsSeen : KT := (yX6_isAsSeen, cX6_isAsSeen, 7, (some .boolean))
abbrev KX7_init : KT := (yX7_init, cX7_init, 3, none)
abbrev KX7_feed : KT := (yX7_feed, cX7_feed, 2, (some .int))
abbrev KX7_village : KT := (yX7_village, cX7_village, 4, (some .int))
abbrev KX7_person : KT := (yX7_person, cX7_person, 5, (some .int))
abbrev KX7_vintage : KT := (yX7_vintage, cX7_vintage, 3, (some .int))
abbrev KX7_of : KT := (yX7_of, cX7_of, 4, (some .int))
abbrev KX7_row : KT := (yX7_row, cX7_row, 6, (some .int))
abbrev KX7_wine : KT := (yX7_wine, cX7_wine, 3, (some .int))
abbrev KX7_stock : KT := (yX7_stock, cX7_stock, 4, (some .int))
abbrev KX7_told : KT := (yX7_told, cX7_told, 2, (some .int))
abbrev KX7_pour : KT := (yX7_pour, cX7_pour, 3, (some .int))
abbrev KX7_dry : KT := (yX7_dry, cX7_dry, 3, (some .int))
abbrev KX7_dawn : KT := (yX7_dawn, cX7_dawn, 2, (some .int))
abbrev KX7_blend : KT := (yX7_blend, cX7_blend, 3, (some .int))
abbrev KX7_alive : KT := (yX7_alive, cX7_alive, 5, (some .int))
abbrev KX7_brings : KT := (yX7_brings, cX7_brings, 4, (some .int))
abbrev KX7_nearest : KT := (yX7_nearest, cX7_nearest, 7, (some .int))
abbrev KX7_two : KT := (yX7_two, cX7_two, 7, (some .int))
abbrev KX7_meet : KT := (yX7_meet, cX7_meet, 9, (some .int))
abbrev KX7_fewest : KT := (yX7_fewest, cX7_fewest, 3, (some .int))
abbrev KX7_close : KT := (yX7_close, cX7_close, 2, (some .int))
abbrev KX7_boldest : KT := (yX7_boldest, cX7_boldest, 2, (some .int))
abbrev KX7_see : KT := (yX7_see, cX7_see, 3, (some .int))
abbrev KX7_drank : KT := (yX7_drank, cX7_drank, 5, (some .int))
abbrev KX7_birth : KT := (yX7_birth, cX7_birth, 7, (some .int))
abbrev KX7_firm : KT := (yX7_firm, cX7_firm, 7, (some .int))
abbrev KX7_odds : KT := (yX7_odds, cX7_odds, 6, (some .long))
abbrev KX7_mean : KT := (yX7_mean, cX7_mean, 6, (some .long))
abbrev KX7_night : KT := (yX7_night, cX7_night, 4, (some .int))
abbrev KX7_done : KT := (yX7_done, cX7_done, 2, (some .int))
abbrev KX7_book : KT := (yX7_book, cX7_book, 3, (some .int))
abbrev KX7_looked : KT := (yX7_looked, cX7_looked, 3, (some .int))
abbrev KX7_act : KT := (yX7_act, cX7_act, 5, (some .int))
abbrev KX7_trace : KT := (yX7_trace, cX7_trace, 2, (some .int))
abbrev KX7_as : KT := (yX7_as, cX7_as, 5, (some .int))
abbrev KX7_image : KT := (yX7_image, cX7_image, 1, (some .int))
abbrev KX7_undo : KT := (yX7_undo, cX7_undo, 1, (some .int))
abbrev KX7_count : KT := (yX7_count, cX7_count, 2, (some .int))
abbrev KX7_isOne : KT := (yX7_isOne, cX7_isOne, 2, (some .boolean))
abbrev KX7_isVintage : KT := (yX7_isVintage, cX7_isVintage, 2, (some .boolean))
abbrev KX7_isOfSeating : KT := (yX7_isOfSeating, cX7_isOfSeating, 2, (some .boolean))
abbrev KX7_isKind : KT := (yX7_isKind, cX7_isKind, 1, (some .boolean))
abbrev KX7_isDigit : KT := (yX7_isDigit, cX7_isDigit, 1, (some .boolean))
abbrev KX7_isBottles : KT := (yX7_isBottles, cX7_isBottles, 1, (some .boolean))
abbrev KX7_isCountOrFirst : KT := (yX7_isCountOrFirst, cX7_isCountOrFirst, 1, (some .boolean))
abbrev KX7_shown : KT := (yX7_shown, cX7_shown, 1, (some .int))
abbrev KX7_tellAge : KT := (yX7_tellAge, cX7_tellAge, 4, (some .int))
abbrev KX7_partOfFraction : KT := (yX7_partOfFraction, cX7_partOfFraction, 7, (some .long))
abbrev KX8_init : KT := (yX8_init, cX8_init, 1, none)
abbrev KX8_in : KT := (yX8_in, cX8_in, 3, (some .boolean))
abbrev KX8_apart : KT := (yX8_apart, cX8_apart, 2, (some .int))
abbrev KX8_isPerson : KT := (yX8_isPerson, cX8_isPerson, 2, (some .boolean))
abbrev KX8_isVintage : KT := (yX8_isVintage, cX8_isVintage, 2, (some .boolean))
abbrev KX8_isAge : KT := (yX8_isAge, cX8_isAge, 1, (some .boolean))
abbrev KX8_orNone : KT := (yX8_orNone, cX8_orNone, 1, (some .int))
abbrev KX8_keeps : KT := (yX8_keeps, cX8_keeps, 2, none)
abbrev KX8_goesBack : KT := (yX8_goesBack, cX8_goesBack, 2, none)
abbrev KX8_feed : KT := (yX8_feed, cX8_feed, 2, (some .int))
abbrev KX8_here : KT := (yX8_here, cX8_here, 1, (some .int))
abbrev KX8_must : KT := (yX8_must, cX8_must, 2, none)
abbrev KX8_spells : KT := (yX8_spells, cX8_spells, 3, none)
abbrev KX8_figures : KT := (yX8_figures, cX8_figures, 3, (some .int))
abbrev KX8_among : KT := (yX8_among, cX8_among, 3, (some .int))
abbrev KX8_emits : KT := (yX8_emits, cX8_emits, 2, none)
abbrev KX8_factor : KT := (yX8_factor, cX8_factor, 5, none)
abbrev KX8_every : KT := (yX8_every, cX8_every, 1, none)
abbrev KX8_some : KT := (yX8_some, cX8_some, 1, none)
abbrev KX8_much : KT := (yX8_much, cX8_much, 4, none)
abbrev KX8_tellsHere : KT := (yX8_tellsHere, cX8_tellsHere, 4, none)
abbrev KX8_clauseHere : KT := (yX8_clauseHere, cX8_clauseHere, 1, none)
abbrev KX8_village : KT := (yX8_village, cX8_village, 2, (some .int))
abbrev KX8_tellsOf : KT := (yX8_tellsOf, cX8_tellsOf, 3, (some .int))
abbrev KX8_ageIn : KT := (yX8_ageIn, cX8_ageIn, 7, (some .int))
abbrev KX8_ageBy : KT := (yX8_ageBy, cX8_ageBy, 3, (some .int))
abbrev KX8_isHereAt : KT := (yX8_isHereAt, cX8_isHereAt, 3, (some .boolean))
abbrev KX8_stageAt : KT := (yX8_stageAt, cX8_stageAt, 3, (some .int))
abbrev KX8_looks : KT := (yX8_looks, cX8_looks, 13, (some .int))
abbrev KX8_nerveBy : KT := (yX8_nerveBy, cX8_nerveBy, 4, (some .int))
abbrev KX8_ageOf : KT := (yX8_ageOf, cX8_ageOf, 2, (some .int))
abbrev KX8_isHere : KT := (yX8_isHere, cX8_isHere, 2, (some .boolean))
abbrev KX8_whoIsHere : KT := (yX8_whoIsHere, cX8_whoIsHere, 3, (some .int))
abbrev KX8_countOf : KT := (yX8_countOf, cX8_countOf, 3, (some .int))
abbrev KX8_allNerve : KT := (yX8_allNerve, cX8_allNerve, 3, (some .int))
abbrev KX8_allBottles : KT := (yX8_allBottles, cX8_allBottles, 3, (some .int))
abbrev KX8_person : KT := (yX8_person, cX8_person, 7, (some .int))
abbrev KX8_newVintage : KT := (yX8_newVintage, cX8_newVintage, 4, (some .int))
abbrev KX8_vintage : KT := (yX8_vintage, cX8_vintage, 3, (some .int))
abbrev KX8_of : KT := (yX8_of, cX8_of, 3, (some .int))
abbrev KX8_row : KT := (yX8_row, cX8_row, 5, (some .int))
abbrev KX8_wine : KT := (yX8_wine, cX8_wine, 3, (some .int))
abbrev KX8_stock : KT := (yX8_stock, cX8_stock, 4, (some .int))
abbrev KX8_told : KT := (yX8_told, cX8_told, 2, (some .int))
abbrev KX8_pours : KT := (yX8_pours, cX8_pours, 3, none)
abbrev KX8_pour : KT := (yX8_pour, cX8_pour, 3, (some .int))
abbrev KX8_dry : KT := (yX8_dry, cX8_dry, 3, (some .int))
abbrev KX8_dawns : KT := (yX8_dawns, cX8_dawns, 2, none)
abbrev KX8_dawn : KT := (yX8_dawn, cX8_dawn, 3, (some .int))
abbrev KX8_blend : KT := (yX8_blend, cX8_blend, 3, (some .int))
abbrev KX8_alive : KT := (yX8_alive, cX8_alive, 3, (some .int))
abbrev KX8_brings : KT := (yX8_brings, cX8_brings, 4, (some .int))
abbrev KX8_nearest : KT := (yX8_nearest, cX8_nearest, 7, (some .int))
abbrev KX8_two : KT := (yX8_two, cX8_two, 6, (some .int))
abbrev KX8_meet : KT := (yX8_meet, cX8_meet, 8, (some .int))
abbrev KX8_looksForSeats : KT := (yX8_looksForSeats, cX8_looksForSeats, 3, none)
abbrev KX8_spread : KT := (yX8_spread, cX8_spread, 5, (some .int))
abbrev KX8_worth : KT := (yX8_worth, cX8_worth, 3, (some .int))
abbrev KX8_keepsSeat : KT := (yX8_keepsSeat, cX8_keepsSeat, 4, none)
abbrev KX8_seatsFrom : KT := (yX8_seatsFrom, cX8_seatsFrom, 5, none)
abbrev KX8_looksForSeating : KT := (yX8_looksForSeating, cX8_looksForSeating, 3, none)
abbrev KX8_everybody : KT := (yX8_everybody, cX8_everybody, 1, (some .int))
abbrev KX8_isAsked : KT := (yX8_isAsked, cX8_isAsked, 2, (some .boolean))
abbrev KX8_seatOf : KT := (yX8_seatOf, cX8_seatOf, 2, (some .int))
abbrev KX8_fewest : KT := (yX8_fewest, cX8_fewest, 3, (some .int))
abbrev KX8_close : KT := (yX8_close, cX8_close, 2, (some .int))
abbrev KX8_boldest : KT := (yX8_boldest, cX8_boldest, 2, (some .int))
abbrev KX8_see : KT := (yX8_see, cX8_see, 3, (some .int))
abbrev KX8_isAsSeen : KT := (yX8_isAsSeen, cX8_isAsSeen, 5, (some .boolean))
abbrev KX8_drank : KT := (yX8_drank, cX8_drank, 4, (some .int))
abbrev KX8_looksForFitting : KT := (yX8_looksForFitting, cX8_looksForFitting, 7, none)
abbrev KX8_birth : KT := (yX8_birth, cX8_birth, 3, (some .int))
abbrev KX8_firm : KT := (yX8_firm, cX8_firm, 3, (some .int))
abbrev KX8_lowest : KT := (yX8_lowest, cX8_lowest, 11, (some .long))
abbrev KX8_odds : KT := (yX8_odds, cX8_odds, 7, (some .long))
abbrev KX8_mean : KT := (yX8_mean, cX8_mean, 5, (some .long))
abbrev KX8_night : KT := (yX8_night, cX8_night, 4, (some .int))
abbrev KX8_does : KT := (yX8_does, cX8_does, 4, none)
abbrev KX8_done : KT := (yX8_done, cX8_done, 3, (some .int))
abbrev KX8_book : KT := (yX8_book, cX8_book, 3, (some .int))
abbrev KX8_looked : KT := (yX8_looked, cX8_looked, 2, (some .int))
abbrev KX8_ranBody : KT := (yX8_ranBody, cX8_ranBody, 2, none)
abbrev KX8_isUnder : KT := (yX8_isUnder, cX8_isUnder, 2, (some .boolean))
abbrev KX8_plainDrinks : KT := (yX8_plainDrinks, cX8_plainDrinks, 2, (some .int))
abbrev KX8_drinksActs : KT := (yX8_drinksActs, cX8_drinksActs, 2, (some .int))
abbrev KX8_plainAges : KT := (yX8_plainAges, cX8_plainAges, 2, (some .int))
abbrev KX8_agesActs : KT := (yX8_agesActs, cX8_agesActs, 2, (some .int))
abbrev KX8_plainTelling : KT := (yX8_plainTelling, cX8_plainTelling, 2, (some .int))
abbrev KX8_tellsActs : KT := (yX8_tellsActs, cX8_tellsActs, 3, (some .int))
abbrev KX8_act : KT := (yX8_act, cX8_act, 4, (some .int))
abbrev KX8_trace : KT := (yX8_trace, cX8_trace, 2, (some .int))
abbrev KX8_as : KT := (yX8_as, cX8_as, 3, (some .int))
abbrev KX8_image : KT := (yX8_image, cX8_image, 2, (some .int))
abbrev KX8_undo : KT := (yX8_undo, cX8_undo, 2, (some .int))
abbrev KX8_count : KT := (yX8_count, cX8_count, 2, (some .int))
abbrev KJ11_isValidCodePoint_9a6ad : KT := (yJ11_isValidCodePoint_9a6ad, cJ11_isValidCodePoint_9a6ad, 2, (some .boolean))
abbrev KJ11_highSurrogate_5068e : KT := (yJ11_highSurrogate_5068e, cJ11_highSurrogate_5068e, 1, (some .char))
abbrev KJ11_lowSurrogate_5068e : KT := (yJ11_lowSurrogate_5068e, cJ11_lowSurrogate_5068e, 1, (some .char))
abbrev KJ6_bitCount_0f7a4 : KT := (yJ6_bitCount_0f7a4, cJ6_bitCount_0f7a4, 1, (some .int))
abbrev KJ9_abs_0f7a4 : KT := (yJ9_abs_0f7a4, cJ9_abs_0f7a4, 1, (some .int))
abbrev KJ9_max_7cf53 : KT := (yJ9_max_7cf53, cJ9_max_7cf53, 2, (some .int))
abbrev KJ9_min_7cf53 : KT := (yJ9_min_7cf53, cJ9_min_7cf53, 2, (some .int))
abbrev KJ0_length_8abf5 : KT := (yJ0_length_8abf5, cJ0_length_8abf5, 1, (some .int))
abbrev KJ0_charAt_5068e : KT := (yJ0_charAt_5068e, cJ0_charAt_5068e, 2, (some .char))
abbrev KJ0_indexOf_0f7a4 : KT := (yJ0_indexOf_0f7a4, cJ0_indexOf_0f7a4, 2, (some .int))
abbrev KJ0_indexOf_7cf53 : KT := (yJ0_indexOf_7cf53, cJ0_indexOf_7cf53, 3, (some .int))
abbrev KJ0_coder_7d493 : KT := (yJ0_coder_7d493, cJ0_coder_7d493, 1, (some .byte))
abbrev KJ0_isLatin1_aae02 : KT := (yJ0_isLatin1_aae02, cJ0_isLatin1_aae02, 1, (some .boolean))
abbrev KJ0_checkIndex_df160 : KT := (yJ0_checkIndex_df160, cJ0_checkIndex_df160, 2, none)
abbrev KJ0_checkBoundsBeginEnd_23922 : KT := (yJ0_checkBoundsBeginEnd_23922, cJ0_checkBoundsBeginEnd_23922, 3, none)
abbrev KJ1_charAt_3b067 : KT := (yJ1_charAt_3b067, cJ1_charAt_3b067, 2, (some .char))
abbrev KJ1_canEncode_9a6ad : KT := (yJ1_canEncode_9a6ad, cJ1_canEncode_9a6ad, 1, (some .boolean))
abbrev KJ1_indexOf_4cfef : KT := (yJ1_indexOf_4cfef, cJ1_indexOf_4cfef, 4, (some .int))
abbrev KJ1_indexOfChar_4cfef : KT := (yJ1_indexOfChar_4cfef, cJ1_indexOfChar_4cfef, 6, (some .int))
abbrev KJ2_getChar_3b067 : KT := (yJ2_getChar_3b067, cJ2_getChar_3b067, 2, (some .char))
abbrev KJ2_length_9d52b : KT := (yJ2_length_9d52b, cJ2_length_9d52b, 1, (some .int))
abbrev KJ2_indexOf_4cfef : KT := (yJ2_indexOf_4cfef, cJ2_indexOf_4cfef, 4, (some .int))
abbrev KJ2_indexOfChar_4cfef : KT := (yJ2_indexOfChar_4cfef, cJ2_indexOfChar_4cfef, 4, (some .int))
abbrev KJ2_indexOfCharUnsafe_4cfef : KT := (yJ2_indexOfCharUnsafe_4cfef, cJ2_indexOfCharUnsafe_4cfef, 5, (some .int))
abbrev KJ2_indexOfSupplementary_4cfef : KT := (yJ2_indexOfSupplementary_4cfef, cJ2_indexOfSupplementary_4cfef, 7, (some .int))
abbrev KJ2_charAt_3b067 : KT := (yJ2_charAt_3b067, cJ2_charAt_3b067, 2, (some .char))
abbrev KJ2_checkIndex_2214a : KT := (yJ2_checkIndex_2214a, cJ2_checkIndex_2214a, 2, none)
abbrev KJ2_checkBoundsBeginEnd_d044e : KT := (yJ2_checkBoundsBeginEnd_d044e, cJ2_checkBoundsBeginEnd_d044e, 3, none)
abbrev KJ3_checkIndex_8e157 : KT := (yJ3_checkIndex_8e157, cJ3_checkIndex_8e157, 3, (some .int))
abbrev KJ3_checkFromToIndex_8c36e : KT := (yJ3_checkFromToIndex_8c36e, cJ3_checkFromToIndex_8c36e, 4, (some .int))
abbrev KL_law : KT := (yL_law, cL_law, 4, some .boolean)
theorem mtX0_init : okMth KX0_init := ⟨(TBL_of (List.mem_of_getElem? (i := 107) (by decide +kernel)) rfl), (TBL_of (List.mem_of_getElem? (i := 77) (by decide +kernel)) rfl), ⟨by decide +kernel, by decide +kernel⟩, by decide⟩
theorem imX0_init : Cond.instanceMethod yX0_init ∈ TBL := (TBL_of (List.mem_of_getElem? (i := 106) (by decide +kernel)) rfl)
theorem mtX0_perform : okMth KX0_perform := ⟨(TBL_of (List.mem_of_getElem? (i := 886) (by decide +kernel)) rfl), (TBL_of (List.mem_of_getElem? (i := 77) (by decide +kernel)) rfl), ⟨by decide +kernel, by decide +kernel⟩, by decide⟩
theorem imX0_perform : Cond.instanceMethod yX0_perform ∈ TBL := (TBL_of (List.mem_of_getElem? (i := 885) (by decide +kernel)) rfl)
theorem ivX0_perform : okInst KX0_perform := ⟨imX0_perform, (TBL_of (List.mem_of_getElem? (i := 23) (by decide +kernel)) rfl)⟩
theorem mtX0_begin : okMth KX0_begin := ⟨(TBL_of (List.mem_of_getElem? (i := 893) (by decide +kernel)) rfl), (TBL_of (List.mem_of_getElem? (i := 77) (by decide +kernel)) rfl), ⟨by decide +kernel, by decide +kernel⟩, by decide⟩
theorem imX0_begin : Cond.instanceMethod yX0_begin ∈ TBL := (TBL_of (List.mem_of_getElem? (i := 892) (by decide +kernel)) rfl)
theorem ivX0_begin : okInst KX0_begin := ⟨imX0_begin, (TBL_of (List.mem_of_getElem? (i := 24) (by decide +kernel)) rfl)⟩
theorem mtX1_init : okMth KX1_init := ⟨(TBL_of (List.mem_of_getElem? (i := 194) (by decide +kernel)) rfl), (TBL_of (List.mem_of_getElem? (i := 81) (by decide +kernel)) rfl), ⟨by decide +kernel, by decide +kernel⟩, by decide⟩
theorem imX1_init : Cond.instanceMethod yX1_init ∈ TBL := (TBL_of (List.mem_of_getElem? (i := 193) (by decide +kernel)) rfl)
theorem mtX1_comeToLife : okMth KX1_comeToLife := ⟨(TBL_of (List.mem_of_getElem? (i := 570) (by decide +kernel)) rfl), (TBL_of (List.mem_of_getElem? (i := 81) (by decide +kernel)) rfl), ⟨by decide +kernel, by decide +kernel⟩, by decide⟩
theorem imX1_comeToLife : Cond.instanceMethod yX1_comeToLife ∈ TBL := (TBL_of (List.mem_of_getElem? (i := 568) (by decide +kernel)) rfl)
theorem ivX1_comeToLife : okInst KX1_comeToLife := ⟨imX1_comeToLife, (TBL_of (List.mem_of_getElem? (i := 569) (by decide +kernel)) rfl)⟩
theorem mtX1_become : okMth KX1_become := ⟨(TBL_of (List.mem_of_getElem? (i := 849) (by decide +kernel)) rfl), (TBL_of (List.mem_of_getElem? (i := 81) (by decide +kernel)) rfl), ⟨by decide +kernel, by decide +kernel⟩, by decide⟩
theorem imX1_become : Cond.instanceMethod yX1_become ∈ TBL := (TBL_of (List.mem_of_getElem? (i := 847) (by decide +kernel)) rfl)
theorem ivX1_become : okInst KX1_become := ⟨imX1_become, (TBL_of (List.mem_of_getElem? (i := 848) (by decide +kernel)) rfl)⟩
theorem mtX1_isHereAt : okMth KX1_isHereAt := ⟨(TBL_of (List.mem_of_getElem? (i := 618) (by decide +kernel)) rfl), (TBL_of (List.mem_of_getElem? (i := 81) (by decide +kernel)) rfl), ⟨by decide +kernel, by decide +kernel⟩, by decide⟩
theorem imX1_isHereAt : Cond.instanceMethod yX1_isHereAt ∈ TBL := (TBL_of (List.mem_of_getElem? (i := 616) (by decide +kernel)) rfl)
theorem ivX1_isHereAt : okInst KX1_isHereAt := ⟨imX1_isHereAt, (TBL_of (List.mem_of_getElem? (i := 617) (by decide +kernel)) rfl)⟩
theorem mtX1_ageIn : okMth KX1_ageIn := ⟨(TBL_of (List.mem_of_getElem? (i := 600) (by decide +kernel)) rfl), (TBL_of (List.mem_of_getElem? (i := 81) (by decide +kernel)) rfl), ⟨by decide +kernel, by decide +kernel⟩, by decide⟩
theorem imX1_ageIn : Cond.instanceMethod yX1_ageIn ∈ TBL := (TBL_of (List.mem_of_getElem? (i := 598) (by decide +kernel)) rfl)
theorem ivX1_ageIn : okInst KX1_ageIn := ⟨imX1_ageIn, (TBL_of (List.mem_of_getElem? (i := 599) (by decide +kernel)) rfl)⟩
theorem mtX1_ageHad : okMth KX1_ageHad := ⟨(TBL_of (List.mem_of_getElem? (i := 604) (by decide +kernel)) rfl), (TBL_of (List.mem_of_getElem? (i := 81) (by decide +kernel)) rfl), ⟨by decide +kernel, by decide +kernel⟩, by decide⟩
theorem imX1_ageHad : Cond.instanceMethod yX1_ageHad ∈ TBL := (TBL_of (List.mem_of_getElem? (i := 602) (by decide +kernel)) rfl)
theorem ivX1_ageHad : okInst KX1_ageHad := ⟨imX1_ageHad, (TBL_of (List.mem_of_getElem? (i := 603) (by decide +kernel)) rfl)⟩
theorem mtX2_init : okMth KX2_init := ⟨(TBL_of (List.mem_of_getElem? (i := 377) (by decide +kernel)) rfl), (TBL_of (List.mem_of_getElem? (i := 84) (by decide +kernel)) rfl), ⟨by decide +kernel, by decide +kernel⟩, by decide⟩
theorem imX2_init : Cond.instanceMethod yX2_init ∈ TBL := (TBL_of (List.mem_of_getElem? (i := 376) (by decide +kernel)) rfl)
theorem mtX2_readVillage : okMth KX2_readVillage := ⟨(TBL_of (List.mem_of_getElem? (i := 396) (by decide +kernel)) rfl), (TBL_of (List.mem_of_getElem? (i := 84) (by decide +kernel)) rfl), ⟨by decide +kernel, by decide +kernel⟩, by decide⟩
theorem imX2_readVillage : Cond.instanceMethod yX2_readVillage ∈ TBL := (TBL_of (List.mem_of_getElem? (i := 394) (by decide +kernel)) rfl)
theorem ivX2_readVillage : okInst KX2_readVillage := ⟨imX2_readVillage, (TBL_of (List.mem_of_getElem? (i := 395) (by decide +kernel)) rfl)⟩
theorem mtX2_readClause : okMth KX2_readClause := ⟨(TBL_of (List.mem_of_getElem? (i := 401) (by decide +kernel)) rfl), (TBL_of (List.mem_of_getElem? (i := 84) (by decide +kernel)) rfl), ⟨by decide +kernel, by decide +kernel⟩, by decide⟩
theorem imX2_readClause : Cond.instanceMethod yX2_readClause ∈ TBL := (TBL_of (List.mem_of_getElem? (i := 400) (by decide +kernel)) rfl)
theorem ivX2_readClause : okInst KX2_readClause := ⟨imX2_readClause, (TBL_of (List.mem_of_getElem? (i := 0) (by decide +kernel)) rfl)⟩
theorem mtX2_readEither : okMth KX2_readEither := ⟨(TBL_of (List.mem_of_getElem? (i := 469) (by decide +kernel)) rfl), (TBL_of (List.mem_of_getElem? (i := 84) (by decide +kernel)) rfl), ⟨by decide +kernel, by decide +kernel⟩, by decide⟩
theorem imX2_readEither : Cond.instanceMethod yX2_readEither ∈ TBL := (TBL_of (List.mem_of_getElem? (i := 468) (by decide +kernel)) rfl)
theorem ivX2_readEither : okInst KX2_readEither := ⟨imX2_readEither, (TBL_of (List.mem_of_getElem? (i := 4) (by decide +kernel)) rfl)⟩
theorem mtX2_readFactor : okMth KX2_readFactor := ⟨(TBL_of (List.mem_of_getElem? (i := 473) (by decide +kernel)) rfl), (TBL_of (List.mem_of_getElem? (i := 84) (by decide +kernel)) rfl), ⟨by decide +kernel, by decide +kernel⟩, by decide⟩
theorem imX2_readFactor : Cond.instanceMethod yX2_readFactor ∈ TBL := (TBL_of (List.mem_of_getElem? (i := 472) (by decide +kernel)) rfl)
theorem ivX2_readFactor : okInst KX2_readFactor := ⟨imX2_readFactor, (TBL_of (List.mem_of_getElem? (i := 5) (by decide +kernel)) rfl)⟩
theorem mtX2_readTest : okMth KX2_readTest := ⟨(TBL_of (List.mem_of_getElem? (i := 481) (by decide +kernel)) rfl), (TBL_of (List.mem_of_getElem? (i := 84) (by decide +kernel)) rfl), ⟨by decide +kernel, by decide +kernel⟩, by decide⟩
theorem imX2_readTest : Cond.instanceMethod yX2_readTest ∈ TBL := (TBL_of (List.mem_of_getElem? (i := 480) (by decide +kernel)) rfl)
theorem ivX2_readTest : okInst KX2_readTest := ⟨imX2_readTest, (TBL_of (List.mem_of_getElem? (i := 6) (by decide +kernel)) rfl)⟩
theorem mtX2_readNumber : okMth KX2_readNumber := ⟨(TBL_of (List.mem_of_getElem? (i := 462) (by decide +kernel)) rfl), (TBL_of (List.mem_of_getElem? (i := 84) (by decide +kernel)) rfl), ⟨by decide +kernel, by decide +kernel⟩, by decide⟩
theorem imX2_readNumber : Cond.instanceMethod yX2_readNumber ∈ TBL := (TBL_of (List.mem_of_getElem? (i := 461) (by decide +kernel)) rfl)
theorem ivX2_readNumber : okInst KX2_readNumber := ⟨imX2_readNumber, (TBL_of (List.mem_of_getElem? (i := 3) (by decide +kernel)) rfl)⟩
theorem mtX2_readOneOf : okMth KX2_readOneOf := ⟨(TBL_of (List.mem_of_getElem? (i := 486) (by decide +kernel)) rfl), (TBL_of (List.mem_of_getElem? (i := 84) (by decide +kernel)) rfl), ⟨by decide +kernel, by decide +kernel⟩, by decide⟩
theorem imX2_readOneOf : Cond.instanceMethod yX2_readOneOf ∈ TBL := (TBL_of (List.mem_of_getElem? (i := 485) (by decide +kernel)) rfl)
theorem ivX2_readOneOf : okInst KX2_readOneOf := ⟨imX2_readOneOf, (TBL_of (List.mem_of_getElem? (i := 7) (by decide +kernel)) rfl)⟩
theorem mtX2_takesAll : okMth KX2_takesAll := ⟨(TBL_of (List.mem_of_getElem? (i := 410) (by decide +kernel)) rfl), (TBL_of (List.mem_of_getElem? (i := 84) (by decide +kernel)) rfl), ⟨by decide +kernel, by decide +kernel⟩, by decide⟩
theorem imX2_takesAll : Cond.instanceMethod yX2_takesAll ∈ TBL := (TBL_of (List.mem_of_getElem? (i := 409) (by decide +kernel)) rfl)
theorem ivX2_takesAll : okInst KX2_takesAll := ⟨imX2_takesAll, (TBL_of (List.mem_of_getElem? (i := 2) (by decide +kernel)) rfl)⟩
theorem mtX2_takes : okMth KX2_takes := ⟨(TBL_of (List.mem_of_getElem? (i := 405) (by decide +kernel)) rfl), (TBL_of (List.mem_of_getElem? (i := 84) (by decide +kernel)) rfl), ⟨by decide +kernel, by decide +kernel⟩, by decide⟩
theorem imX2_takes : Cond.instanceMethod yX2_takes ∈ TBL := (TBL_of (List.mem_of_getElem? (i := 404) (by decide +kernel)) rfl)
theorem ivX2_takes : okInst KX2_takes := ⟨imX2_takes, (TBL_of (List.mem_of_getElem? (i := 1) (by decide +kernel)) rfl)⟩
theorem mtX3_init : okMth KX3_init := ⟨(TBL_of (List.mem_of_getElem? (i := 168) (by decide +kernel)) rfl), (TBL_of (List.mem_of_getElem? (i := 80) (by decide +kernel)) rfl), ⟨by decide +kernel, by decide +kernel⟩, by decide⟩
theorem imX3_init : Cond.instanceMethod yX3_init ∈ TBL := (TBL_of (List.mem_of_getElem? (i := 167) (by decide +kernel)) rfl)
theorem mtX3_empty : okMth KX3_empty := ⟨(TBL_of (List.mem_of_getElem? (i := 800) (by decide +kernel)) rfl), (TBL_of (List.mem_of_getElem? (i := 80) (by decide +kernel)) rfl), ⟨by decide +kernel, by decide +kernel⟩, by decide⟩
theorem imX3_empty : Cond.instanceMethod yX3_empty ∈ TBL := (TBL_of (List.mem_of_getElem? (i := 798) (by decide +kernel)) rfl)
theorem ivX3_empty : okInst KX3_empty := ⟨imX3_empty, (TBL_of (List.mem_of_getElem? (i := 799) (by decide +kernel)) rfl)⟩
theorem mtX3_add : okMth KX3_add := ⟨(TBL_of (List.mem_of_getElem? (i := 804) (by decide +kernel)) rfl), (TBL_of (List.mem_of_getElem? (i := 80) (by decide +kernel)) rfl), ⟨by decide +kernel, by decide +kernel⟩, by decide⟩
theorem imX3_add : Cond.instanceMethod yX3_add ∈ TBL := (TBL_of (List.mem_of_getElem? (i := 802) (by decide +kernel)) rfl)
theorem ivX3_add : okInst KX3_add := ⟨imX3_add, (TBL_of (List.mem_of_getElem? (i := 803) (by decide +kernel)) rfl)⟩
theorem mtX3_become : okMth KX3_become := ⟨(TBL_of (List.mem_of_getElem? (i := 856) (by decide +kernel)) rfl), (TBL_of (List.mem_of_getElem? (i := 80) (by decide +kernel)) rfl), ⟨by decide +kernel, by decide +kernel⟩, by decide⟩
theorem imX3_become : Cond.instanceMethod yX3_become ∈ TBL := (TBL_of (List.mem_of_getElem? (i := 854) (by decide +kernel)) rfl)
theorem ivX3_become : okInst KX3_become := ⟨imX3_become, (TBL_of (List.mem_of_getElem? (i := 855) (by decide +kernel)) rfl)⟩
theorem mtX4_init : okMth KX4_init := ⟨(TBL_of (List.mem_of_getElem? (i := 293) (by decide +kernel)) rfl), (TBL_of (List.mem_of_getElem? (i := 82) (by decide +kernel)) rfl), ⟨by decide +kernel, by decide +kernel⟩, by decide⟩
theorem imX4_init : Cond.instanceMethod yX4_init ∈ TBL := (TBL_of (List.mem_of_getElem? (i := 292) (by decide +kernel)) rfl)
theorem mtX4_answer : okMth KX4_answer := ⟨(TBL_of (List.mem_of_getElem? (i := 733) (by decide +kernel)) rfl), (TBL_of (List.mem_of_getElem? (i := 82) (by decide +kernel)) rfl), ⟨by decide +kernel, by decide +kernel⟩, by decide⟩
theorem imX4_answer : Cond.instanceMethod yX4_answer ∈ TBL := (TBL_of (List.mem_of_getElem? (i := 731) (by decide +kernel)) rfl)
theorem ivX4_answer : okInst KX4_answer := ⟨imX4_answer, (TBL_of (List.mem_of_getElem? (i := 732) (by decide +kernel)) rfl)⟩
theorem mtX4_begin : okMth KX4_begin := ⟨(TBL_of (List.mem_of_getElem? (i := 737) (by decide +kernel)) rfl), (TBL_of (List.mem_of_getElem? (i := 82) (by decide +kernel)) rfl), ⟨by decide +kernel, by decide +kernel⟩, by decide⟩
theorem imX4_begin : Cond.instanceMethod yX4_begin ∈ TBL := (TBL_of (List.mem_of_getElem? (i := 736) (by decide +kernel)) rfl)
theorem ivX4_begin : okInst KX4_begin := ⟨imX4_begin, (TBL_of (List.mem_of_getElem? (i := 13) (by decide +kernel)) rfl)⟩
theorem mtX4_result : okMth KX4_result := ⟨(TBL_of (List.mem_of_getElem? (i := 779) (by decide +kernel)) rfl), (TBL_of (List.mem_of_getElem? (i := 82) (by decide +kernel)) rfl), ⟨by decide +kernel, by decide +kernel⟩, by decide⟩
theorem imX4_result : Cond.instanceMethod yX4_result ∈ TBL := (TBL_of (List.mem_of_getElem? (i := 778) (by decide +kernel)) rfl)
theorem ivX4_result : okInst KX4_result := ⟨imX4_result, (TBL_of (List.mem_of_getElem? (i := 21) (by decide +kernel)) rfl)⟩
theorem mtX4_layChoices : okMth KX4_layChoices := ⟨(TBL_of (List.mem_of_getElem? (i := 743) (by decide +kernel)) rfl), (TBL_of (List.mem_of_getElem? (i := 82) (by decide +kernel)) rfl), ⟨by decide +kernel, by decide +kernel⟩, by decide⟩
theorem imX4_layChoices : Cond.instanceMethod yX4_layChoices ∈ TBL := (TBL_of (List.mem_of_getElem? (i := 742) (by decide +kernel)) rfl)
theorem ivX4_layChoices : okInst KX4_layChoices := ⟨imX4_layChoices, (TBL_of (List.mem_of_getElem? (i := 14) (by decide +kernel)) rfl)⟩
theorem mtX4_isWasted : okMth KX4_isWasted := ⟨(TBL_of (List.mem_of_getElem? (i := 750) (by decide +kernel)) rfl), (TBL_of (List.mem_of_getElem? (i := 82) (by decide +kernel)) rfl), ⟨by decide +kernel, by decide +kernel⟩, by decide⟩
theorem imX4_isWasted : Cond.instanceMethod yX4_isWasted ∈ TBL := (TBL_of (List.mem_of_getElem? (i := 749) (by decide +kernel)) rfl)
theorem ivX4_isWasted : okInst KX4_isWasted := ⟨imX4_isWasted, (TBL_of (List.mem_of_getElem? (i := 15) (by decide +kernel)) rfl)⟩
theorem mtX4_lookAhead : okMth KX4_lookAhead := ⟨(TBL_of (List.mem_of_getElem? (i := 754) (by decide +kernel)) rfl), (TBL_of (List.mem_of_getElem? (i := 82) (by decide +kernel)) rfl), ⟨by decide +kernel, by decide +kernel⟩, by decide⟩
theorem imX4_lookAhead : Cond.instanceMethod yX4_lookAhead ∈ TBL := (TBL_of (List.mem_of_getElem? (i := 753) (by decide +kernel)) rfl)
theorem ivX4_lookAhead : okInst KX4_lookAhead := ⟨imX4_lookAhead, (TBL_of (List.mem_of_getElem? (i := 16) (by decide +kernel)) rfl)⟩
theorem mtX4_sit : okMth KX4_sit := ⟨(TBL_of (List.mem_of_getElem? (i := 760) (by decide +kernel)) rfl), (TBL_of (List.mem_of_getElem? (i := 82) (by decide +kernel)) rfl), ⟨by decide +kernel, by decide +kernel⟩, by decide⟩
theorem imX4_sit : Cond.instanceMethod yX4_sit ∈ TBL := (TBL_of (List.mem_of_getElem? (i := 759) (by decide +kernel)) rfl)
theorem ivX4_sit : okInst KX4_sit := ⟨imX4_sit, (TBL_of (List.mem_of_getElem? (i := 17) (by decide +kernel)) rfl)⟩
theorem mtX4_leastCost : okMth KX4_leastCost := ⟨(TBL_of (List.mem_of_getElem? (i := 764) (by decide +kernel)) rfl), (TBL_of (List.mem_of_getElem? (i := 82) (by decide +kernel)) rfl), ⟨by decide +kernel, by decide +kernel⟩, by decide⟩
theorem imX4_leastCost : Cond.instanceMethod yX4_leastCost ∈ TBL := (TBL_of (List.mem_of_getElem? (i := 763) (by decide +kernel)) rfl)
theorem ivX4_leastCost : okInst KX4_leastCost := ⟨imX4_leastCost, (TBL_of (List.mem_of_getElem? (i := 18) (by decide +kernel)) rfl)⟩
theorem mtX4_isBetter : okMth KX4_isBetter := ⟨(TBL_of (List.mem_of_getElem? (i := 768) (by decide +kernel)) rfl), (TBL_of (List.mem_of_getElem? (i := 82) (by decide +kernel)) rfl), ⟨by decide +kernel, by decide +kernel⟩, by decide⟩
theorem imX4_isBetter : Cond.instanceMethod yX4_isBetter ∈ TBL := (TBL_of (List.mem_of_getElem? (i := 767) (by decide +kernel)) rfl)
theorem ivX4_isBetter : okInst KX4_isBetter := ⟨imX4_isBetter, (TBL_of (List.mem_of_getElem? (i := 19) (by decide +kernel)) rfl)⟩
theorem mtX4_keep : okMth KX4_keep := ⟨(TBL_of (List.mem_of_getElem? (i := 772) (by decide +kernel)) rfl), (TBL_of (List.mem_of_getElem? (i := 82) (by decide +kernel)) rfl), ⟨by decide +kernel, by decide +kernel⟩, by decide⟩
theorem imX4_keep : Cond.instanceMethod yX4_keep ∈ TBL := (TBL_of (List.mem_of_getElem? (i := 771) (by decide +kernel)) rfl)
theorem ivX4_keep : okInst KX4_keep := ⟨imX4_keep, (TBL_of (List.mem_of_getElem? (i := 20) (by decide +kernel)) rfl)⟩
theorem mtX5_init : okMth KX5_init := ⟨(TBL_of (List.mem_of_getElem? (i := 122) (by decide +kernel)) rfl), (TBL_of (List.mem_of_getElem? (i := 78) (by decide +kernel)) rfl), ⟨by decide +kernel, by decide +kernel⟩, by decide⟩
theorem imX5_init : Cond.instanceMethod yX5_init ∈ TBL := (TBL_of (List.mem_of_getElem? (i := 121) (by decide +kernel)) rfl)
theorem mtX5_forget : okMth KX5_forget := ⟨(TBL_of (List.mem_of_getElem? (i := 127) (by decide +kernel)) rfl), (TBL_of (List.mem_of_getElem? (i := 78) (by decide +kernel)) rfl), ⟨by decide +kernel, by decide +kernel⟩, by decide⟩
theorem imX5_forget : Cond.instanceMethod yX5_forget ∈ TBL := (TBL_of (List.mem_of_getElem? (i := 125) (by decide +kernel)) rfl)
theorem ivX5_forget : okInst KX5_forget := ⟨imX5_forget, (TBL_of (List.mem_of_getElem? (i := 126) (by decide +kernel)) rfl)⟩
theorem mtX5_addStep : okMth KX5_addStep := ⟨(TBL_of (List.mem_of_getElem? (i := 477) (by decide +kernel)) rfl), (TBL_of (List.mem_of_getElem? (i := 78) (by decide +kernel)) rfl), ⟨by decide +kernel, by decide +kernel⟩, by decide⟩
theorem imX5_addStep : Cond.instanceMethod yX5_addStep ∈ TBL := (TBL_of (List.mem_of_getElem? (i := 475) (by decide +kernel)) rfl)
theorem ivX5_addStep : okInst KX5_addStep := ⟨imX5_addStep, (TBL_of (List.mem_of_getElem? (i := 476) (by decide +kernel)) rfl)⟩
theorem mtX5_testStep : okMth KX5_testStep := ⟨(TBL_of (List.mem_of_getElem? (i := 549) (by decide +kernel)) rfl), (TBL_of (List.mem_of_getElem? (i := 78) (by decide +kernel)) rfl), ⟨by decide +kernel, by decide +kernel⟩, by decide⟩
theorem smX5_testStep : Cond.static yX5_testStep ∈ TBL := (TBL_of (List.mem_of_getElem? (i := 548) (by decide +kernel)) rfl)
theorem mtX5_endClause : okMth KX5_endClause := ⟨(TBL_of (List.mem_of_getElem? (i := 553) (by decide +kernel)) rfl), (TBL_of (List.mem_of_getElem? (i := 78) (by decide +kernel)) rfl), ⟨by decide +kernel, by decide +kernel⟩, by decide⟩
theorem imX5_endClause : Cond.instanceMethod yX5_endClause ∈ TBL := (TBL_of (List.mem_of_getElem? (i := 551) (by decide +kernel)) rfl)
theorem ivX5_endClause : okInst KX5_endClause := ⟨imX5_endClause, (TBL_of (List.mem_of_getElem? (i := 552) (by decide +kernel)) rfl)⟩
theorem mtX5_nerveFor : okMth KX5_nerveFor := ⟨(TBL_of (List.mem_of_getElem? (i := 626) (by decide +kernel)) rfl), (TBL_of (List.mem_of_getElem? (i := 78) (by decide +kernel)) rfl), ⟨by decide +kernel, by decide +kernel⟩, by decide⟩
theorem imX5_nerveFor : Cond.instanceMethod yX5_nerveFor ∈ TBL := (TBL_of (List.mem_of_getElem? (i := 624) (by decide +kernel)) rfl)
theorem ivX5_nerveFor : okInst KX5_nerveFor := ⟨imX5_nerveFor, (TBL_of (List.mem_of_getElem? (i := 625) (by decide +kernel)) rfl)⟩
theorem mtX5_holdsFor : okMth KX5_holdsFor := ⟨(TBL_of (List.mem_of_getElem? (i := 630) (by decide +kernel)) rfl), (TBL_of (List.mem_of_getElem? (i := 78) (by decide +kernel)) rfl), ⟨by decide +kernel, by decide +kernel⟩, by decide⟩
theorem imX5_holdsFor : Cond.instanceMethod yX5_holdsFor ∈ TBL := (TBL_of (List.mem_of_getElem? (i := 629) (by decide +kernel)) rfl)
theorem ivX5_holdsFor : okInst KX5_holdsFor := ⟨imX5_holdsFor, (TBL_of (List.mem_of_getElem? (i := 10) (by decide +kernel)) rfl)⟩
theorem mtX5_passes : okMth KX5_passes := ⟨(TBL_of (List.mem_of_getElem? (i := 633) (by decide +kernel)) rfl), (TBL_of (List.mem_of_getElem? (i := 78) (by decide +kernel)) rfl), ⟨by decide +kernel, by decide +kernel⟩, by decide⟩
theorem smX5_passes : Cond.static yX5_passes ∈ TBL := (TBL_of (List.mem_of_getElem? (i := 632) (by decide +kernel)) rfl)
theorem mtX6_init : okMth KX6_init := ⟨(TBL_of (List.mem_of_getElem? (i := 160) (by decide +kernel)) rfl), (TBL_of (List.mem_of_getElem? (i := 79) (by decide +kernel)) rfl), ⟨by decide +kernel, by decide +kernel⟩, by decide⟩
theorem imX6_init : Cond.instanceMethod yX6_init ∈ TBL := (TBL_of (List.mem_of_getElem? (i := 159) (by decide +kernel)) rfl)
theorem mtX6_become : okMth KX6_become := ⟨(TBL_of (List.mem_of_getElem? (i := 845) (by decide +kernel)) rfl), (TBL_of (List.mem_of_getElem? (i := 79) (by decide +kernel)) rfl), ⟨by decide +kernel, by decide +kernel⟩, by decide⟩
theorem imX6_become : Cond.instanceMethod yX6_become ∈ TBL := (TBL_of (List.mem_of_getElem? (i := 843) (by decide +kernel)) rfl)
theorem ivX6_become : okInst KX6_become := ⟨imX6_become, (TBL_of (List.mem_of_getElem? (i := 844) (by decide +kernel)) rfl)⟩
theorem mtX6_addVintage : okMth KX6_addVintage := ⟨(TBL_of (List.mem_of_getElem? (i := 581) (by decide +kernel)) rfl), (TBL_of (List.mem_of_getElem? (i := 79) (by decide +kernel)) rfl), ⟨by decide +kernel, by decide +kernel⟩, by decide⟩
theorem imX6_addVintage : Cond.instanceMethod yX6_addVintage ∈ TBL := (TBL_of (List.mem_of_getElem? (i := 579) (by decide +kernel)) rfl)
theorem ivX6_addVintage : okInst KX6_addVintage := ⟨imX6_addVintage, (TBL_of (List.mem_of_getElem? (i := 580) (by decide +kernel)) rfl)⟩
theorem mtX6_ageBy : okMth KX6_ageBy := ⟨(TBL_of (List.mem_of_getElem? (i := 596) (by decide +kernel)) rfl), (TBL_of (List.mem_of_getElem? (i := 79) (by decide +kernel)) rfl), ⟨by decide +kernel, by decide +kernel⟩, by decide⟩
theorem imX6_ageBy : Cond.instanceMethod yX6_ageBy ∈ TBL := (TBL_of (List.mem_of_getElem? (i := 594) (by decide +kernel)) rfl)
theorem ivX6_ageBy : okInst KX6_ageBy := ⟨imX6_ageBy, (TBL_of (List.mem_of_getElem? (i := 595) (by decide +kernel)) rfl)⟩
theorem mtX6_stageBy : okMth KX6_stageBy := ⟨(TBL_of (List.mem_of_getElem? (i := 609) (by decide +kernel)) rfl), (TBL_of (List.mem_of_getElem? (i := 79) (by decide +kernel)) rfl), ⟨by decide +kernel, by decide +kernel⟩, by decide⟩
theorem imX6_stageBy : Cond.instanceMethod yX6_stageBy ∈ TBL := (TBL_of (List.mem_of_getElem? (i := 607) (by decide +kernel)) rfl)
theorem ivX6_stageBy : okInst KX6_stageBy := ⟨imX6_stageBy, (TBL_of (List.mem_of_getElem? (i := 608) (by decide +kernel)) rfl)⟩
theorem mtX6_stageAt : okMth KX6_stageAt := ⟨(TBL_of (List.mem_of_getElem? (i := 614) (by decide +kernel)) rfl), (TBL_of (List.mem_of_getElem? (i := 79) (by decide +kernel)) rfl), ⟨by decide +kernel, by decide +kernel⟩, by decide⟩
theorem imX6_stageAt : Cond.instanceMethod yX6_stageAt ∈ TBL := (TBL_of (List.mem_of_getElem? (i := 613) (by decide +kernel)) rfl)
theorem ivX6_stageAt : okInst KX6_stageAt := ⟨imX6_stageAt, (TBL_of (List.mem_of_getElem? (i := 9) (by decide +kernel)) rfl)⟩
theorem mtX6_nerveBy : okMth KX6_nerveBy := ⟨(TBL_of (List.mem_of_getElem? (i := 622) (by decide +kernel)) rfl), (TBL_of (List.mem_of_getElem? (i := 79) (by decide +kernel)) rfl), ⟨by decide +kernel, by decide +kernel⟩, by decide⟩
theorem imX6_nerveBy : Cond.instanceMethod yX6_nerveBy ∈ TBL := (TBL_of (List.mem_of_getElem? (i := 620) (by decide +kernel)) rfl)
theorem ivX6_nerveBy : okInst KX6_nerveBy := ⟨imX6_nerveBy, (TBL_of (List.mem_of_getElem? (i := 621) (by decide +kernel)) rfl)⟩
theorem mtX6_whoIsHere : okMth KX6_whoIsHere := ⟨(TBL_of (List.mem_of_getElem? (i := 658) (by decide +kernel)) rfl), (TBL_of (List.mem_of_getElem? (i := 79) (by decide +kernel)) rfl), ⟨by decide +kernel, by decide +kernel⟩, by decide⟩
theorem imX6_whoIsHere : Cond.instanceMethod yX6_whoIsHere ∈ TBL := (TBL_of (List.mem_of_getElem? (i := 656) (by decide +kernel)) rfl)
theorem ivX6_whoIsHere : okInst KX6_whoIsHere := ⟨imX6_whoIsHere, (TBL_of (List.mem_of_getElem? (i := 657) (by decide +kernel)) rfl)⟩
theorem mtX6_nerveOfAll : okMth KX6_nerveOfAll := ⟨(TBL_of (List.mem_of_getElem? (i := 663) (by decide +kernel)) rfl), (TBL_of (List.mem_of_getElem? (i := 79) (by decide +kernel)) rfl), ⟨by decide +kernel, by decide +kernel⟩, by decide⟩
theorem imX6_nerveOfAll : Cond.instanceMethod yX6_nerveOfAll ∈ TBL := (TBL_of (List.mem_of_getElem? (i := 661) (by decide +kernel)) rfl)
theorem ivX6_nerveOfAll : okInst KX6_nerveOfAll := ⟨imX6_nerveOfAll, (TBL_of (List.mem_of_getElem? (i := 662) (by decide +kernel)) rfl)⟩
theorem mtX6_bottlesInAll : okMth KX6_bottlesInAll := ⟨(TBL_of (List.mem_of_getElem? (i := 668) (by decide +kernel)) rfl), (TBL_of (List.mem_of_getElem? (i := 79) (by decide +kernel)) rfl), ⟨by decide +kernel, by decide +kernel⟩, by decide⟩
theorem imX6_bottlesInAll : Cond.instanceMethod yX6_bottlesInAll ∈ TBL := (TBL_of (List.mem_of_getElem? (i := 666) (by decide +kernel)) rfl)
theorem ivX6_bottlesInAll : okInst KX6_bottlesInAll := ⟨imX6_bottlesInAll, (TBL_of (List.mem_of_getElem? (i := 667) (by decide +kernel)) rfl)⟩
theorem mtX6_pourOut : okMth KX6_pourOut := ⟨(TBL_of (List.mem_of_getElem? (i := 676) (by decide +kernel)) rfl), (TBL_of (List.mem_of_getElem? (i := 79) (by decide +kernel)) rfl), ⟨by decide +kernel, by decide +kernel⟩, by decide⟩
theorem imX6_pourOut : Cond.instanceMethod yX6_pourOut ∈ TBL := (TBL_of (List.mem_of_getElem? (i := 674) (by decide +kernel)) rfl)
theorem ivX6_pourOut : okInst KX6_pourOut := ⟨imX6_pourOut, (TBL_of (List.mem_of_getElem? (i := 675) (by decide +kernel)) rfl)⟩
theorem mtX6_growLight : okMth KX6_growLight := ⟨(TBL_of (List.mem_of_getElem? (i := 688) (by decide +kernel)) rfl), (TBL_of (List.mem_of_getElem? (i := 79) (by decide +kernel)) rfl), ⟨by decide +kernel, by decide +kernel⟩, by decide⟩
theorem imX6_growLight : Cond.instanceMethod yX6_growLight ∈ TBL := (TBL_of (List.mem_of_getElem? (i := 686) (by decide +kernel)) rfl)
theorem ivX6_growLight : okInst KX6_growLight := ⟨imX6_growLight, (TBL_of (List.mem_of_getElem? (i := 687) (by decide +kernel)) rfl)⟩
theorem mtX6_liveThroughNight : okMth KX6_liveThroughNight := ⟨(TBL_of (List.mem_of_getElem? (i := 862) (by decide +kernel)) rfl), (TBL_of (List.mem_of_getElem? (i := 79) (by decide +kernel)) rfl), ⟨by decide +kernel, by decide +kernel⟩, by decide⟩
theorem imX6_liveThroughNight : Cond.instanceMethod yX6_liveThroughNight ∈ TBL := (TBL_of (List.mem_of_getElem? (i := 860) (by decide +kernel)) rfl)
theorem ivX6_liveThroughNight : okInst KX6_liveThroughNight := ⟨imX6_liveThroughNight, (TBL_of (List.mem_of_getElem? (i := 861) (by decide +kernel)) rfl)⟩
theorem mtX6_isAsSeen : okMth KX6_isAsSeen := ⟨(TBL_of (List.mem_of_getElem? (i := 812) (by decide +kernel)) rfl), (TBL_of (List.mem_of_getElem? (i := 79) (by decide +kernel)) rfl), ⟨by decide +kernel, by decide +kernel⟩, by decide⟩
theorem imX6_isAsSeen : Cond.instanceMethod yX6_isAsSeen ∈ TBL := (TBL_of (List.mem_of_getElem? (i := 810) (by decide +kernel)) rfl)
theorem ivX6_isAsSeen : okInst KX6_isAsSeen := ⟨imX6_isAsSeen, (TBL_of (List.mem_of_getElem? (i := 811) (by decide +kernel)) rfl)⟩
theorem mtX7_init : okMth KX7_init := ⟨(TBL_of (List.mem_of_getElem? (i := 97) (by decide +kernel)) rfl), (TBL_of (List.mem_of_getElem? (i := 76) (by decide +kernel)) rfl), ⟨by decide +kernel, by decide +kernel⟩, by decide⟩
theorem imX7_init : Cond.instanceMethod yX7_init ∈ TBL := (TBL_of (List.mem_of_getElem? (i := 96) (by decide +kernel)) rfl)
theorem mtX7_feed : okMth KX7_feed := ⟨(TBL_of (List.mem_of_getElem? (i := 368) (by decide +kernel)) rfl), (TBL_of (List.mem_of_getElem? (i := 76) (by decide +kernel)) rfl), ⟨by decide +kernel, by decide +kernel⟩, by decide⟩
theorem imX7_feed : Cond.instanceMethod yX7_feed ∈ TBL := (TBL_of (List.mem_of_getElem? (i := 366) (by decide +kernel)) rfl)
theorem ivX7_feed : okInst KX7_feed := ⟨imX7_feed, (TBL_of (List.mem_of_getElem? (i := 367) (by decide +kernel)) rfl)⟩
theorem mtX7_village : okMth KX7_village := ⟨(TBL_of (List.mem_of_getElem? (i := 372) (by decide +kernel)) rfl), (TBL_of (List.mem_of_getElem? (i := 76) (by decide +kernel)) rfl), ⟨by decide +kernel, by decide +kernel⟩, by decide⟩
theorem imX7_village : Cond.instanceMethod yX7_village ∈ TBL := (TBL_of (List.mem_of_getElem? (i := 370) (by decide +kernel)) rfl)
theorem ivX7_village : okInst KX7_village := ⟨imX7_village, (TBL_of (List.mem_of_getElem? (i := 371) (by decide +kernel)) rfl)⟩
theorem mtX7_person : okMth KX7_person := ⟨(TBL_of (List.mem_of_getElem? (i := 558) (by decide +kernel)) rfl), (TBL_of (List.mem_of_getElem? (i := 76) (by decide +kernel)) rfl), ⟨by decide +kernel, by decide +kernel⟩, by decide⟩
theorem imX7_person : Cond.instanceMethod yX7_person ∈ TBL := (TBL_of (List.mem_of_getElem? (i := 556) (by decide +kernel)) rfl)
theorem ivX7_person : okInst KX7_person := ⟨imX7_person, (TBL_of (List.mem_of_getElem? (i := 557) (by decide +kernel)) rfl)⟩
theorem mtX7_vintage : okMth KX7_vintage := ⟨(TBL_of (List.mem_of_getElem? (i := 574) (by decide +kernel)) rfl), (TBL_of (List.mem_of_getElem? (i := 76) (by decide +kernel)) rfl), ⟨by decide +kernel, by decide +kernel⟩, by decide⟩
theorem imX7_vintage : Cond.instanceMethod yX7_vintage ∈ TBL := (TBL_of (List.mem_of_getElem? (i := 572) (by decide +kernel)) rfl)
theorem ivX7_vintage : okInst KX7_vintage := ⟨imX7_vintage, (TBL_of (List.mem_of_getElem? (i := 573) (by decide +kernel)) rfl)⟩
theorem mtX7_of : okMth KX7_of := ⟨(TBL_of (List.mem_of_getElem? (i := 585) (by decide +kernel)) rfl), (TBL_of (List.mem_of_getElem? (i := 76) (by decide +kernel)) rfl), ⟨by decide +kernel, by decide +kernel⟩, by decide⟩
theorem imX7_of : Cond.instanceMethod yX7_of ∈ TBL := (TBL_of (List.mem_of_getElem? (i := 583) (by decide +kernel)) rfl)
theorem ivX7_of : okInst KX7_of := ⟨imX7_of, (TBL_of (List.mem_of_getElem? (i := 584) (by decide +kernel)) rfl)⟩
theorem mtX7_row : okMth KX7_row := ⟨(TBL_of (List.mem_of_getElem? (i := 638) (by decide +kernel)) rfl), (TBL_of (List.mem_of_getElem? (i := 76) (by decide +kernel)) rfl), ⟨by decide +kernel, by decide +kernel⟩, by decide⟩
theorem imX7_row : Cond.instanceMethod yX7_row ∈ TBL := (TBL_of (List.mem_of_getElem? (i := 636) (by decide +kernel)) rfl)
theorem ivX7_row : okInst KX7_row := ⟨imX7_row, (TBL_of (List.mem_of_getElem? (i := 637) (by decide +kernel)) rfl)⟩
theorem mtX7_wine : okMth KX7_wine := ⟨(TBL_of (List.mem_of_getElem? (i := 642) (by decide +kernel)) rfl), (TBL_of (List.mem_of_getElem? (i := 76) (by decide +kernel)) rfl), ⟨by decide +kernel, by decide +kernel⟩, by decide⟩
theorem imX7_wine : Cond.instanceMethod yX7_wine ∈ TBL := (TBL_of (List.mem_of_getElem? (i := 640) (by decide +kernel)) rfl)
theorem ivX7_wine : okInst KX7_wine := ⟨imX7_wine, (TBL_of (List.mem_of_getElem? (i := 641) (by decide +kernel)) rfl)⟩
theorem mtX7_stock : okMth KX7_stock := ⟨(TBL_of (List.mem_of_getElem? (i := 650) (by decide +kernel)) rfl), (TBL_of (List.mem_of_getElem? (i := 76) (by decide +kernel)) rfl), ⟨by decide +kernel, by decide +kernel⟩, by decide⟩
theorem imX7_stock : Cond.instanceMethod yX7_stock ∈ TBL := (TBL_of (List.mem_of_getElem? (i := 648) (by decide +kernel)) rfl)
theorem ivX7_stock : okInst KX7_stock := ⟨imX7_stock, (TBL_of (List.mem_of_getElem? (i := 649) (by decide +kernel)) rfl)⟩
theorem mtX7_told : okMth KX7_told := ⟨(TBL_of (List.mem_of_getElem? (i := 654) (by decide +kernel)) rfl), (TBL_of (List.mem_of_getElem? (i := 76) (by decide +kernel)) rfl), ⟨by decide +kernel, by decide +kernel⟩, by decide⟩
theorem imX7_told : Cond.instanceMethod yX7_told ∈ TBL := (TBL_of (List.mem_of_getElem? (i := 652) (by decide +kernel)) rfl)
theorem ivX7_told : okInst KX7_told := ⟨imX7_told, (TBL_of (List.mem_of_getElem? (i := 653) (by decide +kernel)) rfl)⟩
theorem mtX7_pour : okMth KX7_pour := ⟨(TBL_of (List.mem_of_getElem? (i := 672) (by decide +kernel)) rfl), (TBL_of (List.mem_of_getElem? (i := 76) (by decide +kernel)) rfl), ⟨by decide +kernel, by decide +kernel⟩, by decide⟩
theorem imX7_pour : Cond.instanceMethod yX7_pour ∈ TBL := (TBL_of (List.mem_of_getElem? (i := 670) (by decide +kernel)) rfl)
theorem ivX7_pour : okInst KX7_pour := ⟨imX7_pour, (TBL_of (List.mem_of_getElem? (i := 671) (by decide +kernel)) rfl)⟩
theorem mtX7_dry : okMth KX7_dry := ⟨(TBL_of (List.mem_of_getElem? (i := 680) (by decide +kernel)) rfl), (TBL_of (List.mem_of_getElem? (i := 76) (by decide +kernel)) rfl), ⟨by decide +kernel, by decide +kernel⟩, by decide⟩
theorem imX7_dry : Cond.instanceMethod yX7_dry ∈ TBL := (TBL_of (List.mem_of_getElem? (i := 678) (by decide +kernel)) rfl)
theorem ivX7_dry : okInst KX7_dry := ⟨imX7_dry, (TBL_of (List.mem_of_getElem? (i := 679) (by decide +kernel)) rfl)⟩
theorem mtX7_dawn : okMth KX7_dawn := ⟨(TBL_of (List.mem_of_getElem? (i := 684) (by decide +kernel)) rfl), (TBL_of (List.mem_of_getElem? (i := 76) (by decide +kernel)) rfl), ⟨by decide +kernel, by decide +kernel⟩, by decide⟩
theorem imX7_dawn : Cond.instanceMethod yX7_dawn ∈ TBL := (TBL_of (List.mem_of_getElem? (i := 682) (by decide +kernel)) rfl)
theorem ivX7_dawn : okInst KX7_dawn := ⟨imX7_dawn, (TBL_of (List.mem_of_getElem? (i := 683) (by decide +kernel)) rfl)⟩
theorem mtX7_blend : okMth KX7_blend := ⟨(TBL_of (List.mem_of_getElem? (i := 692) (by decide +kernel)) rfl), (TBL_of (List.mem_of_getElem? (i := 76) (by decide +kernel)) rfl), ⟨by decide +kernel, by decide +kernel⟩, by decide⟩
theorem imX7_blend : Cond.instanceMethod yX7_blend ∈ TBL := (TBL_of (List.mem_of_getElem? (i := 690) (by decide +kernel)) rfl)
theorem ivX7_blend : okInst KX7_blend := ⟨imX7_blend, (TBL_of (List.mem_of_getElem? (i := 691) (by decide +kernel)) rfl)⟩
theorem mtX7_alive : okMth KX7_alive := ⟨(TBL_of (List.mem_of_getElem? (i := 696) (by decide +kernel)) rfl), (TBL_of (List.mem_of_getElem? (i := 76) (by decide +kernel)) rfl), ⟨by decide +kernel, by decide +kernel⟩, by decide⟩
theorem imX7_alive : Cond.instanceMethod yX7_alive ∈ TBL := (TBL_of (List.mem_of_getElem? (i := 694) (by decide +kernel)) rfl)
theorem ivX7_alive : okInst KX7_alive := ⟨imX7_alive, (TBL_of (List.mem_of_getElem? (i := 695) (by decide +kernel)) rfl)⟩
theorem mtX7_brings : okMth KX7_brings := ⟨(TBL_of (List.mem_of_getElem? (i := 702) (by decide +kernel)) rfl), (TBL_of (List.mem_of_getElem? (i := 76) (by decide +kernel)) rfl), ⟨by decide +kernel, by decide +kernel⟩, by decide⟩
theorem imX7_brings : Cond.instanceMethod yX7_brings ∈ TBL := (TBL_of (List.mem_of_getElem? (i := 700) (by decide +kernel)) rfl)
theorem ivX7_brings : okInst KX7_brings := ⟨imX7_brings, (TBL_of (List.mem_of_getElem? (i := 701) (by decide +kernel)) rfl)⟩
theorem mtX7_nearest : okMth KX7_nearest := ⟨(TBL_of (List.mem_of_getElem? (i := 706) (by decide +kernel)) rfl), (TBL_of (List.mem_of_getElem? (i := 76) (by decide +kernel)) rfl), ⟨by decide +kernel, by decide +kernel⟩, by decide⟩
theorem imX7_nearest : Cond.instanceMethod yX7_nearest ∈ TBL := (TBL_of (List.mem_of_getElem? (i := 704) (by decide +kernel)) rfl)
theorem ivX7_nearest : okInst KX7_nearest := ⟨imX7_nearest, (TBL_of (List.mem_of_getElem? (i := 705) (by decide +kernel)) rfl)⟩
theorem mtX7_two : okMth KX7_two := ⟨(TBL_of (List.mem_of_getElem? (i := 714) (by decide +kernel)) rfl), (TBL_of (List.mem_of_getElem? (i := 76) (by decide +kernel)) rfl), ⟨by decide +kernel, by decide +kernel⟩, by decide⟩
theorem imX7_two : Cond.instanceMethod yX7_two ∈ TBL := (TBL_of (List.mem_of_getElem? (i := 712) (by decide +kernel)) rfl)
theorem ivX7_two : okInst KX7_two := ⟨imX7_two, (TBL_of (List.mem_of_getElem? (i := 713) (by decide +kernel)) rfl)⟩
theorem mtX7_meet : okMth KX7_meet := ⟨(TBL_of (List.mem_of_getElem? (i := 718) (by decide +kernel)) rfl), (TBL_of (List.mem_of_getElem? (i := 76) (by decide +kernel)) rfl), ⟨by decide +kernel, by decide +kernel⟩, by decide⟩
theorem imX7_meet : Cond.instanceMethod yX7_meet ∈ TBL := (TBL_of (List.mem_of_getElem? (i := 716) (by decide +kernel)) rfl)
theorem ivX7_meet : okInst KX7_meet := ⟨imX7_meet, (TBL_of (List.mem_of_getElem? (i := 717) (by decide +kernel)) rfl)⟩
theorem mtX7_fewest : okMth KX7_fewest := ⟨(TBL_of (List.mem_of_getElem? (i := 725) (by decide +kernel)) rfl), (TBL_of (List.mem_of_getElem? (i := 76) (by decide +kernel)) rfl), ⟨by decide +kernel, by decide +kernel⟩, by decide⟩
theorem imX7_fewest : Cond.instanceMethod yX7_fewest ∈ TBL := (TBL_of (List.mem_of_getElem? (i := 723) (by decide +kernel)) rfl)
theorem ivX7_fewest : okInst KX7_fewest := ⟨imX7_fewest, (TBL_of (List.mem_of_getElem? (i := 724) (by decide +kernel)) rfl)⟩
theorem mtX7_close : okMth KX7_close := ⟨(TBL_of (List.mem_of_getElem? (i := 784) (by decide +kernel)) rfl), (TBL_of (List.mem_of_getElem? (i := 76) (by decide +kernel)) rfl), ⟨by decide +kernel, by decide +kernel⟩, by decide⟩
theorem imX7_close : Cond.instanceMethod yX7_close ∈ TBL := (TBL_of (List.mem_of_getElem? (i := 782) (by decide +kernel)) rfl)
theorem ivX7_close : okInst KX7_close := ⟨imX7_close, (TBL_of (List.mem_of_getElem? (i := 783) (by decide +kernel)) rfl)⟩
theorem mtX7_boldest : okMth KX7_boldest := ⟨(TBL_of (List.mem_of_getElem? (i := 788) (by decide +kernel)) rfl), (TBL_of (List.mem_of_getElem? (i := 76) (by decide +kernel)) rfl), ⟨by decide +kernel, by decide +kernel⟩, by decide⟩
theorem imX7_boldest : Cond.instanceMethod yX7_boldest ∈ TBL := (TBL_of (List.mem_of_getElem? (i := 786) (by decide +kernel)) rfl)
theorem ivX7_boldest : okInst KX7_boldest := ⟨imX7_boldest, (TBL_of (List.mem_of_getElem? (i := 787) (by decide +kernel)) rfl)⟩
theorem mtX7_see : okMth KX7_see := ⟨(TBL_of (List.mem_of_getElem? (i := 792) (by decide +kernel)) rfl), (TBL_of (List.mem_of_getElem? (i := 76) (by decide +kernel)) rfl), ⟨by decide +kernel, by decide +kernel⟩, by decide⟩
theorem imX7_see : Cond.instanceMethod yX7_see ∈ TBL := (TBL_of (List.mem_of_getElem? (i := 790) (by decide +kernel)) rfl)
theorem ivX7_see : okInst KX7_see := ⟨imX7_see, (TBL_of (List.mem_of_getElem? (i := 791) (by decide +kernel)) rfl)⟩
theorem mtX7_drank : okMth KX7_drank := ⟨(TBL_of (List.mem_of_getElem? (i := 808) (by decide +kernel)) rfl), (TBL_of (List.mem_of_getElem? (i := 76) (by decide +kernel)) rfl), ⟨by decide +kernel, by decide +kernel⟩, by decide⟩
theorem imX7_drank : Cond.instanceMethod yX7_drank ∈ TBL := (TBL_of (List.mem_of_getElem? (i := 806) (by decide +kernel)) rfl)
theorem ivX7_drank : okInst KX7_drank := ⟨imX7_drank, (TBL_of (List.mem_of_getElem? (i := 807) (by decide +kernel)) rfl)⟩
theorem mtX7_birth : okMth KX7_birth := ⟨(TBL_of (List.mem_of_getElem? (i := 817) (by decide +kernel)) rfl), (TBL_of (List.mem_of_getElem? (i := 76) (by decide +kernel)) rfl), ⟨by decide +kernel, by decide +kernel⟩, by decide⟩
theorem imX7_birth : Cond.instanceMethod yX7_birth ∈ TBL := (TBL_of (List.mem_of_getElem? (i := 815) (by decide +kernel)) rfl)
theorem ivX7_birth : okInst KX7_birth := ⟨imX7_birth, (TBL_of (List.mem_of_getElem? (i := 816) (by decide +kernel)) rfl)⟩
theorem mtX7_firm : okMth KX7_firm := ⟨(TBL_of (List.mem_of_getElem? (i := 821) (by decide +kernel)) rfl), (TBL_of (List.mem_of_getElem? (i := 76) (by decide +kernel)) rfl), ⟨by decide +kernel, by decide +kernel⟩, by decide⟩
theorem imX7_firm : Cond.instanceMethod yX7_firm ∈ TBL := (TBL_of (List.mem_of_getElem? (i := 819) (by decide +kernel)) rfl)
theorem ivX7_firm : okInst KX7_firm := ⟨imX7_firm, (TBL_of (List.mem_of_getElem? (i := 820) (by decide +kernel)) rfl)⟩
theorem mtX7_odds : okMth KX7_odds := ⟨(TBL_of (List.mem_of_getElem? (i := 825) (by decide +kernel)) rfl), (TBL_of (List.mem_of_getElem? (i := 76) (by decide +kernel)) rfl), ⟨by decide +kernel, by decide +kernel⟩, by decide⟩
theorem imX7_odds : Cond.instanceMethod yX7_odds ∈ TBL := (TBL_of (List.mem_of_getElem? (i := 823) (by decide +kernel)) rfl)
theorem ivX7_odds : okInst KX7_odds := ⟨imX7_odds, (TBL_of (List.mem_of_getElem? (i := 824) (by decide +kernel)) rfl)⟩
theorem mtX7_mean : okMth KX7_mean := ⟨(TBL_of (List.mem_of_getElem? (i := 833) (by decide +kernel)) rfl), (TBL_of (List.mem_of_getElem? (i := 76) (by decide +kernel)) rfl), ⟨by decide +kernel, by decide +kernel⟩, by decide⟩
theorem imX7_mean : Cond.instanceMethod yX7_mean ∈ TBL := (TBL_of (List.mem_of_getElem? (i := 831) (by decide +kernel)) rfl)
theorem ivX7_mean : okInst KX7_mean := ⟨imX7_mean, (TBL_of (List.mem_of_getElem? (i := 832) (by decide +kernel)) rfl)⟩
theorem mtX7_night : okMth KX7_night := ⟨(TBL_of (List.mem_of_getElem? (i := 837) (by decide +kernel)) rfl), (TBL_of (List.mem_of_getElem? (i := 76) (by decide +kernel)) rfl), ⟨by decide +kernel, by decide +kernel⟩, by decide⟩
theorem imX7_night : Cond.instanceMethod yX7_night ∈ TBL := (TBL_of (List.mem_of_getElem? (i := 835) (by decide +kernel)) rfl)
theorem ivX7_night : okInst KX7_night := ⟨imX7_night, (TBL_of (List.mem_of_getElem? (i := 836) (by decide +kernel)) rfl)⟩
theorem mtX7_done : okMth KX7_done := ⟨(TBL_of (List.mem_of_getElem? (i := 841) (by decide +kernel)) rfl), (TBL_of (List.mem_of_getElem? (i := 76) (by decide +kernel)) rfl), ⟨by decide +kernel, by decide +kernel⟩, by decide⟩
theorem imX7_done : Cond.instanceMethod yX7_done ∈ TBL := (TBL_of (List.mem_of_getElem? (i := 839) (by decide +kernel)) rfl)
theorem ivX7_done : okInst KX7_done := ⟨imX7_done, (TBL_of (List.mem_of_getElem? (i := 840) (by decide +kernel)) rfl)⟩
theorem mtX7_book : okMth KX7_book := ⟨(TBL_of (List.mem_of_getElem? (i := 874) (by decide +kernel)) rfl), (TBL_of (List.mem_of_getElem? (i := 76) (by decide +kernel)) rfl), ⟨by decide +kernel, by decide +kernel⟩, by decide⟩
theorem imX7_book : Cond.instanceMethod yX7_book ∈ TBL := (TBL_of (List.mem_of_getElem? (i := 872) (by decide +kernel)) rfl)
theorem ivX7_book : okInst KX7_book := ⟨imX7_book, (TBL_of (List.mem_of_getElem? (i := 873) (by decide +kernel)) rfl)⟩
theorem mtX7_looked : okMth KX7_looked := ⟨(TBL_of (List.mem_of_getElem? (i := 878) (by decide +kernel)) rfl), (TBL_of (List.mem_of_getElem? (i := 76) (by decide +kernel)) rfl), ⟨by decide +kernel, by decide +kernel⟩, by decide⟩
theorem imX7_looked : Cond.instanceMethod yX7_looked ∈ TBL := (TBL_of (List.mem_of_getElem? (i := 876) (by decide +kernel)) rfl)
theorem ivX7_looked : okInst KX7_looked := ⟨imX7_looked, (TBL_of (List.mem_of_getElem? (i := 877) (by decide +kernel)) rfl)⟩
theorem mtX7_act : okMth KX7_act := ⟨(TBL_of (List.mem_of_getElem? (i := 882) (by decide +kernel)) rfl), (TBL_of (List.mem_of_getElem? (i := 76) (by decide +kernel)) rfl), ⟨by decide +kernel, by decide +kernel⟩, by decide⟩
theorem imX7_act : Cond.instanceMethod yX7_act ∈ TBL := (TBL_of (List.mem_of_getElem? (i := 880) (by decide +kernel)) rfl)
theorem ivX7_act : okInst KX7_act := ⟨imX7_act, (TBL_of (List.mem_of_getElem? (i := 881) (by decide +kernel)) rfl)⟩
theorem mtX7_trace : okMth KX7_trace := ⟨(TBL_of (List.mem_of_getElem? (i := 898) (by decide +kernel)) rfl), (TBL_of (List.mem_of_getElem? (i := 76) (by decide +kernel)) rfl), ⟨by decide +kernel, by decide +kernel⟩, by decide⟩
theorem imX7_trace : Cond.instanceMethod yX7_trace ∈ TBL := (TBL_of (List.mem_of_getElem? (i := 896) (by decide +kernel)) rfl)
theorem ivX7_trace : okInst KX7_trace := ⟨imX7_trace, (TBL_of (List.mem_of_getElem? (i := 897) (by decide +kernel)) rfl)⟩
theorem mtX7_as : okMth KX7_as := ⟨(TBL_of (List.mem_of_getElem? (i := 902) (by decide +kernel)) rfl), (TBL_of (List.mem_of_getElem? (i := 76) (by decide +kernel)) rfl), ⟨by decide +kernel, by decide +kernel⟩, by decide⟩
theorem imX7_as : Cond.instanceMethod yX7_as ∈ TBL := (TBL_of (List.mem_of_getElem? (i := 900) (by decide +kernel)) rfl)
theorem ivX7_as : okInst KX7_as := ⟨imX7_as, (TBL_of (List.mem_of_getElem? (i := 901) (by decide +kernel)) rfl)⟩
theorem mtX7_image : okMth KX7_image := ⟨(TBL_of (List.mem_of_getElem? (i := 906) (by decide +kernel)) rfl), (TBL_of (List.mem_of_getElem? (i := 76) (by decide +kernel)) rfl), ⟨by decide +kernel, by decide +kernel⟩, by decide⟩
theorem imX7_image : Cond.instanceMethod yX7_image ∈ TBL := (TBL_of (List.mem_of_getElem? (i := 904) (by decide +kernel)) rfl)
theorem ivX7_image : okInst KX7_image := ⟨imX7_image, (TBL_of (List.mem_of_getElem? (i := 905) (by decide +kernel)) rfl)⟩
theorem mtX7_undo : okMth KX7_undo := ⟨(TBL_of (List.mem_of_getElem? (i := 910) (by decide +kernel)) rfl), (TBL_of (List.mem_of_getElem? (i := 76) (by decide +kernel)) rfl), ⟨by decide +kernel, by decide +kernel⟩, by decide⟩
theorem imX7_undo : Cond.instanceMethod yX7_undo ∈ TBL := (TBL_of (List.mem_of_getElem? (i := 908) (by decide +kernel)) rfl)
theorem ivX7_undo : okInst KX7_undo := ⟨imX7_undo, (TBL_of (List.mem_of_getElem? (i := 909) (by decide +kernel)) rfl)⟩
theorem mtX7_count : okMth KX7_count := ⟨(TBL_of (List.mem_of_getElem? (i := 914) (by decide +kernel)) rfl), (TBL_of (List.mem_of_getElem? (i := 76) (by decide +kernel)) rfl), ⟨by decide +kernel, by decide +kernel⟩, by decide⟩
theorem imX7_count : Cond.instanceMethod yX7_count ∈ TBL := (TBL_of (List.mem_of_getElem? (i := 912) (by decide +kernel)) rfl)
theorem ivX7_count : okInst KX7_count := ⟨imX7_count, (TBL_of (List.mem_of_getElem? (i := 913) (by decide +kernel)) rfl)⟩
theorem mtX7_isOne : okMth KX7_isOne := ⟨(TBL_of (List.mem_of_getElem? (i := 589) (by decide +kernel)) rfl), (TBL_of (List.mem_of_getElem? (i := 76) (by decide +kernel)) rfl), ⟨by decide +kernel, by decide +kernel⟩, by decide⟩
theorem imX7_isOne : Cond.instanceMethod yX7_isOne ∈ TBL := (TBL_of (List.mem_of_getElem? (i := 588) (by decide +kernel)) rfl)
theorem ivX7_isOne : okInst KX7_isOne := ⟨imX7_isOne, (TBL_of (List.mem_of_getElem? (i := 8) (by decide +kernel)) rfl)⟩
theorem mtX7_isVintage : okMth KX7_isVintage := ⟨(TBL_of (List.mem_of_getElem? (i := 646) (by decide +kernel)) rfl), (TBL_of (List.mem_of_getElem? (i := 76) (by decide +kernel)) rfl), ⟨by decide +kernel, by decide +kernel⟩, by decide⟩
theorem imX7_isVintage : Cond.instanceMethod yX7_isVintage ∈ TBL := (TBL_of (List.mem_of_getElem? (i := 645) (by decide +kernel)) rfl)
theorem ivX7_isVintage : okInst KX7_isVintage := ⟨imX7_isVintage, (TBL_of (List.mem_of_getElem? (i := 11) (by decide +kernel)) rfl)⟩
theorem mtX7_isOfSeating : okMth KX7_isOfSeating := ⟨(TBL_of (List.mem_of_getElem? (i := 729) (by decide +kernel)) rfl), (TBL_of (List.mem_of_getElem? (i := 76) (by decide +kernel)) rfl), ⟨by decide +kernel, by decide +kernel⟩, by decide⟩
theorem imX7_isOfSeating : Cond.instanceMethod yX7_isOfSeating ∈ TBL := (TBL_of (List.mem_of_getElem? (i := 728) (by decide +kernel)) rfl)
theorem ivX7_isOfSeating : okInst KX7_isOfSeating := ⟨imX7_isOfSeating, (TBL_of (List.mem_of_getElem? (i := 12) (by decide +kernel)) rfl)⟩
theorem mtX7_isKind : okMth KX7_isKind := ⟨(TBL_of (List.mem_of_getElem? (i := 561) (by decide +kernel)) rfl), (TBL_of (List.mem_of_getElem? (i := 76) (by decide +kernel)) rfl), ⟨by decide +kernel, by decide +kernel⟩, by decide⟩
theorem smX7_isKind : Cond.static yX7_isKind ∈ TBL := (TBL_of (List.mem_of_getElem? (i := 560) (by decide +kernel)) rfl)
theorem mtX7_isDigit : okMth KX7_isDigit := ⟨(TBL_of (List.mem_of_getElem? (i := 566) (by decide +kernel)) rfl), (TBL_of (List.mem_of_getElem? (i := 76) (by decide +kernel)) rfl), ⟨by decide +kernel, by decide +kernel⟩, by decide⟩
theorem smX7_isDigit : Cond.static yX7_isDigit ∈ TBL := (TBL_of (List.mem_of_getElem? (i := 565) (by decide +kernel)) rfl)
theorem mtX7_isBottles : okMth KX7_isBottles := ⟨(TBL_of (List.mem_of_getElem? (i := 577) (by decide +kernel)) rfl), (TBL_of (List.mem_of_getElem? (i := 76) (by decide +kernel)) rfl), ⟨by decide +kernel, by decide +kernel⟩, by decide⟩
theorem smX7_isBottles : Cond.static yX7_isBottles ∈ TBL := (TBL_of (List.mem_of_getElem? (i := 576) (by decide +kernel)) rfl)
theorem mtX7_isCountOrFirst : okMth KX7_isCountOrFirst := ⟨(TBL_of (List.mem_of_getElem? (i := 721) (by decide +kernel)) rfl), (TBL_of (List.mem_of_getElem? (i := 76) (by decide +kernel)) rfl), ⟨by decide +kernel, by decide +kernel⟩, by decide⟩
theorem smX7_isCountOrFirst : Cond.static yX7_isCountOrFirst ∈ TBL := (TBL_of (List.mem_of_getElem? (i := 720) (by decide +kernel)) rfl)
theorem mtX7_shown : okMth KX7_shown := ⟨(TBL_of (List.mem_of_getElem? (i := 592) (by decide +kernel)) rfl), (TBL_of (List.mem_of_getElem? (i := 76) (by decide +kernel)) rfl), ⟨by decide +kernel, by decide +kernel⟩, by decide⟩
theorem smX7_shown : Cond.static yX7_shown ∈ TBL := (TBL_of (List.mem_of_getElem? (i := 591) (by decide +kernel)) rfl)
theorem mtX7_tellAge : okMth KX7_tellAge := ⟨(TBL_of (List.mem_of_getElem? (i := 796) (by decide +kernel)) rfl), (TBL_of (List.mem_of_getElem? (i := 76) (by decide +kernel)) rfl), ⟨by decide +kernel, by decide +kernel⟩, by decide⟩
theorem imX7_tellAge : Cond.instanceMethod yX7_tellAge ∈ TBL := (TBL_of (List.mem_of_getElem? (i := 795) (by decide +kernel)) rfl)
theorem ivX7_tellAge : okInst KX7_tellAge := ⟨imX7_tellAge, (TBL_of (List.mem_of_getElem? (i := 22) (by decide +kernel)) rfl)⟩
theorem mtX7_partOfFraction : okMth KX7_partOfFraction := ⟨(TBL_of (List.mem_of_getElem? (i := 829) (by decide +kernel)) rfl), (TBL_of (List.mem_of_getElem? (i := 76) (by decide +kernel)) rfl), ⟨by decide +kernel, by decide +kernel⟩, by decide⟩
theorem smX7_partOfFraction : Cond.static yX7_partOfFraction ∈ TBL := (TBL_of (List.mem_of_getElem? (i := 828) (by decide +kernel)) rfl)
theorem mtX8_init : okMth KX8_init := ⟨(TBL_of (List.mem_of_getElem? (i := 919) (by decide +kernel)) rfl), (TBL_of (List.mem_of_getElem? (i := 83) (by decide +kernel)) rfl), ⟨by decide +kernel, by decide +kernel⟩, by decide⟩
theorem imX8_init : Cond.instanceMethod yX8_init ∈ TBL := (TBL_of (List.mem_of_getElem? (i := 918) (by decide +kernel)) rfl)
theorem mtX8_in : okMth KX8_in := ⟨(TBL_of (List.mem_of_getElem? (i := 1015) (by decide +kernel)) rfl), (TBL_of (List.mem_of_getElem? (i := 83) (by decide +kernel)) rfl), ⟨by decide +kernel, by decide +kernel⟩, by decide⟩
theorem smX8_in : Cond.static yX8_in ∈ TBL := (TBL_of (List.mem_of_getElem? (i := 1014) (by decide +kernel)) rfl)
theorem mtX8_apart : okMth KX8_apart := ⟨(TBL_of (List.mem_of_getElem? (i := 1214) (by decide +kernel)) rfl), (TBL_of (List.mem_of_getElem? (i := 83) (by decide +kernel)) rfl), ⟨by decide +kernel, by decide +kernel⟩, by decide⟩
theorem smX8_apart : Cond.static yX8_apart ∈ TBL := (TBL_of (List.mem_of_getElem? (i := 1213) (by decide +kernel)) rfl)
theorem mtX8_isPerson : okMth KX8_isPerson := ⟨(TBL_of (List.mem_of_getElem? (i := 1095) (by decide +kernel)) rfl), (TBL_of (List.mem_of_getElem? (i := 83) (by decide +kernel)) rfl), ⟨by decide +kernel, by decide +kernel⟩, by decide⟩
theorem imX8_isPerson : Cond.instanceMethod yX8_isPerson ∈ TBL := (TBL_of (List.mem_of_getElem? (i := 1094) (by decide +kernel)) rfl)
theorem ivX8_isPerson : okInst KX8_isPerson := ⟨imX8_isPerson, (TBL_of (List.mem_of_getElem? (i := 38) (by decide +kernel)) rfl)⟩
theorem mtX8_isVintage : okMth KX8_isVintage := ⟨(TBL_of (List.mem_of_getElem? (i := 1146) (by decide +kernel)) rfl), (TBL_of (List.mem_of_getElem? (i := 83) (by decide +kernel)) rfl), ⟨by decide +kernel, by decide +kernel⟩, by decide⟩
theorem imX8_isVintage : Cond.instanceMethod yX8_isVintage ∈ TBL := (TBL_of (List.mem_of_getElem? (i := 1145) (by decide +kernel)) rfl)
theorem ivX8_isVintage : okInst KX8_isVintage := ⟨imX8_isVintage, (TBL_of (List.mem_of_getElem? (i := 48) (by decide +kernel)) rfl)⟩
theorem mtX8_isAge : okMth KX8_isAge := ⟨(TBL_of (List.mem_of_getElem? (i := 1277) (by decide +kernel)) rfl), (TBL_of (List.mem_of_getElem? (i := 83) (by decide +kernel)) rfl), ⟨by decide +kernel, by decide +kernel⟩, by decide⟩
theorem smX8_isAge : Cond.static yX8_isAge ∈ TBL := (TBL_of (List.mem_of_getElem? (i := 1276) (by decide +kernel)) rfl)
theorem mtX8_orNone : okMth KX8_orNone := ⟨(TBL_of (List.mem_of_getElem? (i := 1098) (by decide +kernel)) rfl), (TBL_of (List.mem_of_getElem? (i := 83) (by decide +kernel)) rfl), ⟨by decide +kernel, by decide +kernel⟩, by decide⟩
theorem smX8_orNone : Cond.static yX8_orNone ∈ TBL := (TBL_of (List.mem_of_getElem? (i := 1097) (by decide +kernel)) rfl)
theorem mtX8_keeps : okMth KX8_keeps := ⟨(TBL_of (List.mem_of_getElem? (i := 1198) (by decide +kernel)) rfl), (TBL_of (List.mem_of_getElem? (i := 83) (by decide +kernel)) rfl), ⟨by decide +kernel, by decide +kernel⟩, by decide⟩
theorem imX8_keeps : Cond.instanceMethod yX8_keeps ∈ TBL := (TBL_of (List.mem_of_getElem? (i := 1197) (by decide +kernel)) rfl)
theorem ivX8_keeps : okInst KX8_keeps := ⟨imX8_keeps, (TBL_of (List.mem_of_getElem? (i := 54) (by decide +kernel)) rfl)⟩
theorem mtX8_goesBack : okMth KX8_goesBack := ⟨(TBL_of (List.mem_of_getElem? (i := 1202) (by decide +kernel)) rfl), (TBL_of (List.mem_of_getElem? (i := 83) (by decide +kernel)) rfl), ⟨by decide +kernel, by decide +kernel⟩, by decide⟩
theorem imX8_goesBack : Cond.instanceMethod yX8_goesBack ∈ TBL := (TBL_of (List.mem_of_getElem? (i := 1201) (by decide +kernel)) rfl)
theorem ivX8_goesBack : okInst KX8_goesBack := ⟨imX8_goesBack, (TBL_of (List.mem_of_getElem? (i := 55) (by decide +kernel)) rfl)⟩
theorem mtX8_feed : okMth KX8_feed := ⟨(TBL_of (List.mem_of_getElem? (i := 1012) (by decide +kernel)) rfl), (TBL_of (List.mem_of_getElem? (i := 83) (by decide +kernel)) rfl), ⟨by decide +kernel, by decide +kernel⟩, by decide⟩
theorem imX8_feed : Cond.instanceMethod yX8_feed ∈ TBL := (TBL_of (List.mem_of_getElem? (i := 1010) (by decide +kernel)) rfl)
theorem ivX8_feed : okInst KX8_feed := ⟨imX8_feed, (TBL_of (List.mem_of_getElem? (i := 1011) (by decide +kernel)) rfl)⟩
theorem mtX8_here : okMth KX8_here := ⟨(TBL_of (List.mem_of_getElem? (i := 1027) (by decide +kernel)) rfl), (TBL_of (List.mem_of_getElem? (i := 83) (by decide +kernel)) rfl), ⟨by decide +kernel, by decide +kernel⟩, by decide⟩
theorem imX8_here : Cond.instanceMethod yX8_here ∈ TBL := (TBL_of (List.mem_of_getElem? (i := 1026) (by decide +kernel)) rfl)
theorem ivX8_here : okInst KX8_here := ⟨imX8_here, (TBL_of (List.mem_of_getElem? (i := 26) (by decide +kernel)) rfl)⟩
theorem mtX8_must : okMth KX8_must := ⟨(TBL_of (List.mem_of_getElem? (i := 1042) (by decide +kernel)) rfl), (TBL_of (List.mem_of_getElem? (i := 83) (by decide +kernel)) rfl), ⟨by decide +kernel, by decide +kernel⟩, by decide⟩
theorem imX8_must : Cond.instanceMethod yX8_must ∈ TBL := (TBL_of (List.mem_of_getElem? (i := 1041) (by decide +kernel)) rfl)
theorem ivX8_must : okInst KX8_must := ⟨imX8_must, (TBL_of (List.mem_of_getElem? (i := 29) (by decide +kernel)) rfl)⟩
theorem mtX8_spells : okMth KX8_spells := ⟨(TBL_of (List.mem_of_getElem? (i := 1036) (by decide +kernel)) rfl), (TBL_of (List.mem_of_getElem? (i := 83) (by decide +kernel)) rfl), ⟨by decide +kernel, by decide +kernel⟩, by decide⟩
theorem imX8_spells : Cond.instanceMethod yX8_spells ∈ TBL := (TBL_of (List.mem_of_getElem? (i := 1035) (by decide +kernel)) rfl)
theorem ivX8_spells : okInst KX8_spells := ⟨imX8_spells, (TBL_of (List.mem_of_getElem? (i := 28) (by decide +kernel)) rfl)⟩
theorem mtX8_figures : okMth KX8_figures := ⟨(TBL_of (List.mem_of_getElem? (i := 1046) (by decide +kernel)) rfl), (TBL_of (List.mem_of_getElem? (i := 83) (by decide +kernel)) rfl), ⟨by decide +kernel, by decide +kernel⟩, by decide⟩
theorem imX8_figures : Cond.instanceMethod yX8_figures ∈ TBL := (TBL_of (List.mem_of_getElem? (i := 1045) (by decide +kernel)) rfl)
theorem ivX8_figures : okInst KX8_figures := ⟨imX8_figures, (TBL_of (List.mem_of_getElem? (i := 30) (by decide +kernel)) rfl)⟩
theorem mtX8_among : okMth KX8_among := ⟨(TBL_of (List.mem_of_getElem? (i := 1073) (by decide +kernel)) rfl), (TBL_of (List.mem_of_getElem? (i := 83) (by decide +kernel)) rfl), ⟨by decide +kernel, by decide +kernel⟩, by decide⟩
theorem imX8_among : Cond.instanceMethod yX8_among ∈ TBL := (TBL_of (List.mem_of_getElem? (i := 1072) (by decide +kernel)) rfl)
theorem ivX8_among : okInst KX8_among := ⟨imX8_among, (TBL_of (List.mem_of_getElem? (i := 36) (by decide +kernel)) rfl)⟩
theorem mtX8_emits : okMth KX8_emits := ⟨(TBL_of (List.mem_of_getElem? (i := 1068) (by decide +kernel)) rfl), (TBL_of (List.mem_of_getElem? (i := 83) (by decide +kernel)) rfl), ⟨by decide +kernel, by decide +kernel⟩, by decide⟩
theorem imX8_emits : Cond.instanceMethod yX8_emits ∈ TBL := (TBL_of (List.mem_of_getElem? (i := 1067) (by decide +kernel)) rfl)
theorem ivX8_emits : okInst KX8_emits := ⟨imX8_emits, (TBL_of (List.mem_of_getElem? (i := 35) (by decide +kernel)) rfl)⟩
theorem mtX8_factor : okMth KX8_factor := ⟨(TBL_of (List.mem_of_getElem? (i := 1064) (by decide +kernel)) rfl), (TBL_of (List.mem_of_getElem? (i := 83) (by decide +kernel)) rfl), ⟨by decide +kernel, by decide +kernel⟩, by decide⟩
theorem imX8_factor : Cond.instanceMethod yX8_factor ∈ TBL := (TBL_of (List.mem_of_getElem? (i := 1063) (by decide +kernel)) rfl)
theorem ivX8_factor : okInst KX8_factor := ⟨imX8_factor, (TBL_of (List.mem_of_getElem? (i := 34) (by decide +kernel)) rfl)⟩
theorem mtX8_every : okMth KX8_every := ⟨(TBL_of (List.mem_of_getElem? (i := 1060) (by decide +kernel)) rfl), (TBL_of (List.mem_of_getElem? (i := 83) (by decide +kernel)) rfl), ⟨by decide +kernel, by decide +kernel⟩, by decide⟩
theorem imX8_every : Cond.instanceMethod yX8_every ∈ TBL := (TBL_of (List.mem_of_getElem? (i := 1059) (by decide +kernel)) rfl)
theorem ivX8_every : okInst KX8_every := ⟨imX8_every, (TBL_of (List.mem_of_getElem? (i := 33) (by decide +kernel)) rfl)⟩
theorem mtX8_some : okMth KX8_some := ⟨(TBL_of (List.mem_of_getElem? (i := 1056) (by decide +kernel)) rfl), (TBL_of (List.mem_of_getElem? (i := 83) (by decide +kernel)) rfl), ⟨by decide +kernel, by decide +kernel⟩, by decide⟩
theorem imX8_some : Cond.instanceMethod yX8_some ∈ TBL := (TBL_of (List.mem_of_getElem? (i := 1055) (by decide +kernel)) rfl)
theorem ivX8_some : okInst KX8_some := ⟨imX8_some, (TBL_of (List.mem_of_getElem? (i := 32) (by decide +kernel)) rfl)⟩
theorem mtX8_much : okMth KX8_much := ⟨(TBL_of (List.mem_of_getElem? (i := 1052) (by decide +kernel)) rfl), (TBL_of (List.mem_of_getElem? (i := 83) (by decide +kernel)) rfl), ⟨by decide +kernel, by decide +kernel⟩, by decide⟩
theorem imX8_much : Cond.instanceMethod yX8_much ∈ TBL := (TBL_of (List.mem_of_getElem? (i := 1051) (by decide +kernel)) rfl)
theorem ivX8_much : okInst KX8_much := ⟨imX8_much, (TBL_of (List.mem_of_getElem? (i := 31) (by decide +kernel)) rfl)⟩
theorem mtX8_tellsHere : okMth KX8_tellsHere := ⟨(TBL_of (List.mem_of_getElem? (i := 1032) (by decide +kernel)) rfl), (TBL_of (List.mem_of_getElem? (i := 83) (by decide +kernel)) rfl), ⟨by decide +kernel, by decide +kernel⟩, by decide⟩
theorem imX8_tellsHere : Cond.instanceMethod yX8_tellsHere ∈ TBL := (TBL_of (List.mem_of_getElem? (i := 1031) (by decide +kernel)) rfl)
theorem ivX8_tellsHere : okInst KX8_tellsHere := ⟨imX8_tellsHere, (TBL_of (List.mem_of_getElem? (i := 27) (by decide +kernel)) rfl)⟩
theorem mtX8_clauseHere : okMth KX8_clauseHere := ⟨(TBL_of (List.mem_of_getElem? (i := 1023) (by decide +kernel)) rfl), (TBL_of (List.mem_of_getElem? (i := 83) (by decide +kernel)) rfl), ⟨by decide +kernel, by decide +kernel⟩, by decide⟩
theorem imX8_clauseHere : Cond.instanceMethod yX8_clauseHere ∈ TBL := (TBL_of (List.mem_of_getElem? (i := 1022) (by decide +kernel)) rfl)
theorem ivX8_clauseHere : okInst KX8_clauseHere := ⟨imX8_clauseHere, (TBL_of (List.mem_of_getElem? (i := 25) (by decide +kernel)) rfl)⟩
theorem mtX8_village : okMth KX8_village := ⟨(TBL_of (List.mem_of_getElem? (i := 1019) (by decide +kernel)) rfl), (TBL_of (List.mem_of_getElem? (i := 83) (by decide +kernel)) rfl), ⟨by decide +kernel, by decide +kernel⟩, by decide⟩
theorem imX8_village : Cond.instanceMethod yX8_village ∈ TBL := (TBL_of (List.mem_of_getElem? (i := 1017) (by decide +kernel)) rfl)
theorem ivX8_village : okInst KX8_village := ⟨imX8_village, (TBL_of (List.mem_of_getElem? (i := 1018) (by decide +kernel)) rfl)⟩
theorem mtX8_tellsOf : okMth KX8_tellsOf := ⟨(TBL_of (List.mem_of_getElem? (i := 1126) (by decide +kernel)) rfl), (TBL_of (List.mem_of_getElem? (i := 83) (by decide +kernel)) rfl), ⟨by decide +kernel, by decide +kernel⟩, by decide⟩
theorem imX8_tellsOf : Cond.instanceMethod yX8_tellsOf ∈ TBL := (TBL_of (List.mem_of_getElem? (i := 1125) (by decide +kernel)) rfl)
theorem ivX8_tellsOf : okInst KX8_tellsOf := ⟨imX8_tellsOf, (TBL_of (List.mem_of_getElem? (i := 45) (by decide +kernel)) rfl)⟩
theorem mtX8_ageIn : okMth KX8_ageIn := ⟨(TBL_of (List.mem_of_getElem? (i := 1110) (by decide +kernel)) rfl), (TBL_of (List.mem_of_getElem? (i := 83) (by decide +kernel)) rfl), ⟨by decide +kernel, by decide +kernel⟩, by decide⟩
theorem imX8_ageIn : Cond.instanceMethod yX8_ageIn ∈ TBL := (TBL_of (List.mem_of_getElem? (i := 1109) (by decide +kernel)) rfl)
theorem ivX8_ageIn : okInst KX8_ageIn := ⟨imX8_ageIn, (TBL_of (List.mem_of_getElem? (i := 41) (by decide +kernel)) rfl)⟩
theorem mtX8_ageBy : okMth KX8_ageBy := ⟨(TBL_of (List.mem_of_getElem? (i := 1106) (by decide +kernel)) rfl), (TBL_of (List.mem_of_getElem? (i := 83) (by decide +kernel)) rfl), ⟨by decide +kernel, by decide +kernel⟩, by decide⟩
theorem imX8_ageBy : Cond.instanceMethod yX8_ageBy ∈ TBL := (TBL_of (List.mem_of_getElem? (i := 1105) (by decide +kernel)) rfl)
theorem ivX8_ageBy : okInst KX8_ageBy := ⟨imX8_ageBy, (TBL_of (List.mem_of_getElem? (i := 40) (by decide +kernel)) rfl)⟩
theorem mtX8_isHereAt : okMth KX8_isHereAt := ⟨(TBL_of (List.mem_of_getElem? (i := 1118) (by decide +kernel)) rfl), (TBL_of (List.mem_of_getElem? (i := 83) (by decide +kernel)) rfl), ⟨by decide +kernel, by decide +kernel⟩, by decide⟩
theorem imX8_isHereAt : Cond.instanceMethod yX8_isHereAt ∈ TBL := (TBL_of (List.mem_of_getElem? (i := 1117) (by decide +kernel)) rfl)
theorem ivX8_isHereAt : okInst KX8_isHereAt := ⟨imX8_isHereAt, (TBL_of (List.mem_of_getElem? (i := 43) (by decide +kernel)) rfl)⟩
theorem mtX8_stageAt : okMth KX8_stageAt := ⟨(TBL_of (List.mem_of_getElem? (i := 1122) (by decide +kernel)) rfl), (TBL_of (List.mem_of_getElem? (i := 83) (by decide +kernel)) rfl), ⟨by decide +kernel, by decide +kernel⟩, by decide⟩
theorem imX8_stageAt : Cond.instanceMethod yX8_stageAt ∈ TBL := (TBL_of (List.mem_of_getElem? (i := 1121) (by decide +kernel)) rfl)
theorem ivX8_stageAt : okInst KX8_stageAt := ⟨imX8_stageAt, (TBL_of (List.mem_of_getElem? (i := 44) (by decide +kernel)) rfl)⟩
theorem mtX8_looks : okMth KX8_looks := ⟨(TBL_of (List.mem_of_getElem? (i := 1134) (by decide +kernel)) rfl), (TBL_of (List.mem_of_getElem? (i := 83) (by decide +kernel)) rfl), ⟨by decide +kernel, by decide +kernel⟩, by decide⟩
theorem imX8_looks : Cond.instanceMethod yX8_looks ∈ TBL := (TBL_of (List.mem_of_getElem? (i := 1133) (by decide +kernel)) rfl)
theorem ivX8_looks : okInst KX8_looks := ⟨imX8_looks, (TBL_of (List.mem_of_getElem? (i := 47) (by decide +kernel)) rfl)⟩
theorem mtX8_nerveBy : okMth KX8_nerveBy := ⟨(TBL_of (List.mem_of_getElem? (i := 1130) (by decide +kernel)) rfl), (TBL_of (List.mem_of_getElem? (i := 83) (by decide +kernel)) rfl), ⟨by decide +kernel, by decide +kernel⟩, by decide⟩
theorem imX8_nerveBy : Cond.instanceMethod yX8_nerveBy ∈ TBL := (TBL_of (List.mem_of_getElem? (i := 1129) (by decide +kernel)) rfl)
theorem ivX8_nerveBy : okInst KX8_nerveBy := ⟨imX8_nerveBy, (TBL_of (List.mem_of_getElem? (i := 46) (by decide +kernel)) rfl)⟩
theorem mtX8_ageOf : okMth KX8_ageOf := ⟨(TBL_of (List.mem_of_getElem? (i := 1102) (by decide +kernel)) rfl), (TBL_of (List.mem_of_getElem? (i := 83) (by decide +kernel)) rfl), ⟨by decide +kernel, by decide +kernel⟩, by decide⟩
theorem imX8_ageOf : Cond.instanceMethod yX8_ageOf ∈ TBL := (TBL_of (List.mem_of_getElem? (i := 1101) (by decide +kernel)) rfl)
theorem ivX8_ageOf : okInst KX8_ageOf := ⟨imX8_ageOf, (TBL_of (List.mem_of_getElem? (i := 39) (by decide +kernel)) rfl)⟩
theorem mtX8_isHere : okMth KX8_isHere := ⟨(TBL_of (List.mem_of_getElem? (i := 1114) (by decide +kernel)) rfl), (TBL_of (List.mem_of_getElem? (i := 83) (by decide +kernel)) rfl), ⟨by decide +kernel, by decide +kernel⟩, by decide⟩
theorem imX8_isHere : Cond.instanceMethod yX8_isHere ∈ TBL := (TBL_of (List.mem_of_getElem? (i := 1113) (by decide +kernel)) rfl)
theorem ivX8_isHere : okInst KX8_isHere := ⟨imX8_isHere, (TBL_of (List.mem_of_getElem? (i := 42) (by decide +kernel)) rfl)⟩
theorem mtX8_whoIsHere : okMth KX8_whoIsHere := ⟨(TBL_of (List.mem_of_getElem? (i := 1158) (by decide +kernel)) rfl), (TBL_of (List.mem_of_getElem? (i := 83) (by decide +kernel)) rfl), ⟨by decide +kernel, by decide +kernel⟩, by decide⟩
theorem imX8_whoIsHere : Cond.instanceMethod yX8_whoIsHere ∈ TBL := (TBL_of (List.mem_of_getElem? (i := 1157) (by decide +kernel)) rfl)
theorem ivX8_whoIsHere : okInst KX8_whoIsHere := ⟨imX8_whoIsHere, (TBL_of (List.mem_of_getElem? (i := 49) (by decide +kernel)) rfl)⟩
theorem mtX8_countOf : okMth KX8_countOf := ⟨(TBL_of (List.mem_of_getElem? (i := 1312) (by decide +kernel)) rfl), (TBL_of (List.mem_of_getElem? (i := 83) (by decide +kernel)) rfl), ⟨by decide +kernel, by decide +kernel⟩, by decide⟩
theorem smX8_countOf : Cond.static yX8_countOf ∈ TBL := (TBL_of (List.mem_of_getElem? (i := 1311) (by decide +kernel)) rfl)
theorem mtX8_allNerve : okMth KX8_allNerve := ⟨(TBL_of (List.mem_of_getElem? (i := 1162) (by decide +kernel)) rfl), (TBL_of (List.mem_of_getElem? (i := 83) (by decide +kernel)) rfl), ⟨by decide +kernel, by decide +kernel⟩, by decide⟩
theorem imX8_allNerve : Cond.instanceMethod yX8_allNerve ∈ TBL := (TBL_of (List.mem_of_getElem? (i := 1161) (by decide +kernel)) rfl)
theorem ivX8_allNerve : okInst KX8_allNerve := ⟨imX8_allNerve, (TBL_of (List.mem_of_getElem? (i := 50) (by decide +kernel)) rfl)⟩
theorem mtX8_allBottles : okMth KX8_allBottles := ⟨(TBL_of (List.mem_of_getElem? (i := 1166) (by decide +kernel)) rfl), (TBL_of (List.mem_of_getElem? (i := 83) (by decide +kernel)) rfl), ⟨by decide +kernel, by decide +kernel⟩, by decide⟩
theorem imX8_allBottles : Cond.instanceMethod yX8_allBottles ∈ TBL := (TBL_of (List.mem_of_getElem? (i := 1165) (by decide +kernel)) rfl)
theorem ivX8_allBottles : okInst KX8_allBottles := ⟨imX8_allBottles, (TBL_of (List.mem_of_getElem? (i := 51) (by decide +kernel)) rfl)⟩
theorem mtX8_person : okMth KX8_person := ⟨(TBL_of (List.mem_of_getElem? (i := 1079) (by decide +kernel)) rfl), (TBL_of (List.mem_of_getElem? (i := 83) (by decide +kernel)) rfl), ⟨by decide +kernel, by decide +kernel⟩, by decide⟩
theorem imX8_person : Cond.instanceMethod yX8_person ∈ TBL := (TBL_of (List.mem_of_getElem? (i := 1077) (by decide +kernel)) rfl)
theorem ivX8_person : okInst KX8_person := ⟨imX8_person, (TBL_of (List.mem_of_getElem? (i := 1078) (by decide +kernel)) rfl)⟩
theorem mtX8_newVintage : okMth KX8_newVintage := ⟨(TBL_of (List.mem_of_getElem? (i := 1087) (by decide +kernel)) rfl), (TBL_of (List.mem_of_getElem? (i := 83) (by decide +kernel)) rfl), ⟨by decide +kernel, by decide +kernel⟩, by decide⟩
theorem imX8_newVintage : Cond.instanceMethod yX8_newVintage ∈ TBL := (TBL_of (List.mem_of_getElem? (i := 1086) (by decide +kernel)) rfl)
theorem ivX8_newVintage : okInst KX8_newVintage := ⟨imX8_newVintage, (TBL_of (List.mem_of_getElem? (i := 37) (by decide +kernel)) rfl)⟩
theorem mtX8_vintage : okMth KX8_vintage := ⟨(TBL_of (List.mem_of_getElem? (i := 1083) (by decide +kernel)) rfl), (TBL_of (List.mem_of_getElem? (i := 83) (by decide +kernel)) rfl), ⟨by decide +kernel, by decide +kernel⟩, by decide⟩
theorem imX8_vintage : Cond.instanceMethod yX8_vintage ∈ TBL := (TBL_of (List.mem_of_getElem? (i := 1081) (by decide +kernel)) rfl)
theorem ivX8_vintage : okInst KX8_vintage := ⟨imX8_vintage, (TBL_of (List.mem_of_getElem? (i := 1082) (by decide +kernel)) rfl)⟩
theorem mtX8_of : okMth KX8_of := ⟨(TBL_of (List.mem_of_getElem? (i := 1091) (by decide +kernel)) rfl), (TBL_of (List.mem_of_getElem? (i := 83) (by decide +kernel)) rfl), ⟨by decide +kernel, by decide +kernel⟩, by decide⟩
theorem imX8_of : Cond.instanceMethod yX8_of ∈ TBL := (TBL_of (List.mem_of_getElem? (i := 1089) (by decide +kernel)) rfl)
theorem ivX8_of : okInst KX8_of := ⟨imX8_of, (TBL_of (List.mem_of_getElem? (i := 1090) (by decide +kernel)) rfl)⟩
theorem mtX8_row : okMth KX8_row := ⟨(TBL_of (List.mem_of_getElem? (i := 1138) (by decide +kernel)) rfl), (TBL_of (List.mem_of_getElem? (i := 83) (by decide +kernel)) rfl), ⟨by decide +kernel, by decide +kernel⟩, by decide⟩
theorem imX8_row : Cond.instanceMethod yX8_row ∈ TBL := (TBL_of (List.mem_of_getElem? (i := 1136) (by decide +kernel)) rfl)
theorem ivX8_row : okInst KX8_row := ⟨imX8_row, (TBL_of (List.mem_of_getElem? (i := 1137) (by decide +kernel)) rfl)⟩
theorem mtX8_wine : okMth KX8_wine := ⟨(TBL_of (List.mem_of_getElem? (i := 1142) (by decide +kernel)) rfl), (TBL_of (List.mem_of_getElem? (i := 83) (by decide +kernel)) rfl), ⟨by decide +kernel, by decide +kernel⟩, by decide⟩
theorem imX8_wine : Cond.instanceMethod yX8_wine ∈ TBL := (TBL_of (List.mem_of_getElem? (i := 1140) (by decide +kernel)) rfl)
theorem ivX8_wine : okInst KX8_wine := ⟨imX8_wine, (TBL_of (List.mem_of_getElem? (i := 1141) (by decide +kernel)) rfl)⟩
theorem mtX8_stock : okMth KX8_stock := ⟨(TBL_of (List.mem_of_getElem? (i := 1150) (by decide +kernel)) rfl), (TBL_of (List.mem_of_getElem? (i := 83) (by decide +kernel)) rfl), ⟨by decide +kernel, by decide +kernel⟩, by decide⟩
theorem imX8_stock : Cond.instanceMethod yX8_stock ∈ TBL := (TBL_of (List.mem_of_getElem? (i := 1148) (by decide +kernel)) rfl)
theorem ivX8_stock : okInst KX8_stock := ⟨imX8_stock, (TBL_of (List.mem_of_getElem? (i := 1149) (by decide +kernel)) rfl)⟩
theorem mtX8_told : okMth KX8_told := ⟨(TBL_of (List.mem_of_getElem? (i := 1154) (by decide +kernel)) rfl), (TBL_of (List.mem_of_getElem? (i := 83) (by decide +kernel)) rfl), ⟨by decide +kernel, by decide +kernel⟩, by decide⟩
theorem imX8_told : Cond.instanceMethod yX8_told ∈ TBL := (TBL_of (List.mem_of_getElem? (i := 1152) (by decide +kernel)) rfl)
theorem ivX8_told : okInst KX8_told := ⟨imX8_told, (TBL_of (List.mem_of_getElem? (i := 1153) (by decide +kernel)) rfl)⟩
theorem mtX8_pours : okMth KX8_pours := ⟨(TBL_of (List.mem_of_getElem? (i := 1174) (by decide +kernel)) rfl), (TBL_of (List.mem_of_getElem? (i := 83) (by decide +kernel)) rfl), ⟨by decide +kernel, by decide +kernel⟩, by decide⟩
theorem imX8_pours : Cond.instanceMethod yX8_pours ∈ TBL := (TBL_of (List.mem_of_getElem? (i := 1173) (by decide +kernel)) rfl)
theorem ivX8_pours : okInst KX8_pours := ⟨imX8_pours, (TBL_of (List.mem_of_getElem? (i := 52) (by decide +kernel)) rfl)⟩
theorem mtX8_pour : okMth KX8_pour := ⟨(TBL_of (List.mem_of_getElem? (i := 1170) (by decide +kernel)) rfl), (TBL_of (List.mem_of_getElem? (i := 83) (by decide +kernel)) rfl), ⟨by decide +kernel, by decide +kernel⟩, by decide⟩
theorem imX8_pour : Cond.instanceMethod yX8_pour ∈ TBL := (TBL_of (List.mem_of_getElem? (i := 1168) (by decide +kernel)) rfl)
theorem ivX8_pour : okInst KX8_pour := ⟨imX8_pour, (TBL_of (List.mem_of_getElem? (i := 1169) (by decide +kernel)) rfl)⟩
theorem mtX8_dry : okMth KX8_dry := ⟨(TBL_of (List.mem_of_getElem? (i := 1178) (by decide +kernel)) rfl), (TBL_of (List.mem_of_getElem? (i := 83) (by decide +kernel)) rfl), ⟨by decide +kernel, by decide +kernel⟩, by decide⟩
theorem imX8_dry : Cond.instanceMethod yX8_dry ∈ TBL := (TBL_of (List.mem_of_getElem? (i := 1176) (by decide +kernel)) rfl)
theorem ivX8_dry : okInst KX8_dry := ⟨imX8_dry, (TBL_of (List.mem_of_getElem? (i := 1177) (by decide +kernel)) rfl)⟩
theorem mtX8_dawns : okMth KX8_dawns := ⟨(TBL_of (List.mem_of_getElem? (i := 1186) (by decide +kernel)) rfl), (TBL_of (List.mem_of_getElem? (i := 83) (by decide +kernel)) rfl), ⟨by decide +kernel, by decide +kernel⟩, by decide⟩
theorem imX8_dawns : Cond.instanceMethod yX8_dawns ∈ TBL := (TBL_of (List.mem_of_getElem? (i := 1185) (by decide +kernel)) rfl)
theorem ivX8_dawns : okInst KX8_dawns := ⟨imX8_dawns, (TBL_of (List.mem_of_getElem? (i := 53) (by decide +kernel)) rfl)⟩
theorem mtX8_dawn : okMth KX8_dawn := ⟨(TBL_of (List.mem_of_getElem? (i := 1182) (by decide +kernel)) rfl), (TBL_of (List.mem_of_getElem? (i := 83) (by decide +kernel)) rfl), ⟨by decide +kernel, by decide +kernel⟩, by decide⟩
theorem imX8_dawn : Cond.instanceMethod yX8_dawn ∈ TBL := (TBL_of (List.mem_of_getElem? (i := 1180) (by decide +kernel)) rfl)
theorem ivX8_dawn : okInst KX8_dawn := ⟨imX8_dawn, (TBL_of (List.mem_of_getElem? (i := 1181) (by decide +kernel)) rfl)⟩
theorem mtX8_blend : okMth KX8_blend := ⟨(TBL_of (List.mem_of_getElem? (i := 1190) (by decide +kernel)) rfl), (TBL_of (List.mem_of_getElem? (i := 83) (by decide +kernel)) rfl), ⟨by decide +kernel, by decide +kernel⟩, by decide⟩
theorem imX8_blend : Cond.instanceMethod yX8_blend ∈ TBL := (TBL_of (List.mem_of_getElem? (i := 1188) (by decide +kernel)) rfl)
theorem ivX8_blend : okInst KX8_blend := ⟨imX8_blend, (TBL_of (List.mem_of_getElem? (i := 1189) (by decide +kernel)) rfl)⟩
theorem mtX8_alive : okMth KX8_alive := ⟨(TBL_of (List.mem_of_getElem? (i := 1194) (by decide +kernel)) rfl), (TBL_of (List.mem_of_getElem? (i := 83) (by decide +kernel)) rfl), ⟨by decide +kernel, by decide +kernel⟩, by decide⟩
theorem imX8_alive : Cond.instanceMethod yX8_alive ∈ TBL := (TBL_of (List.mem_of_getElem? (i := 1192) (by decide +kernel)) rfl)
theorem ivX8_alive : okInst KX8_alive := ⟨imX8_alive, (TBL_of (List.mem_of_getElem? (i := 1193) (by decide +kernel)) rfl)⟩
theorem mtX8_brings : okMth KX8_brings := ⟨(TBL_of (List.mem_of_getElem? (i := 1206) (by decide +kernel)) rfl), (TBL_of (List.mem_of_getElem? (i := 83) (by decide +kernel)) rfl), ⟨by decide +kernel, by decide +kernel⟩, by decide⟩
theorem imX8_brings : Cond.instanceMethod yX8_brings ∈ TBL := (TBL_of (List.mem_of_getElem? (i := 1204) (by decide +kernel)) rfl)
theorem ivX8_brings : okInst KX8_brings := ⟨imX8_brings, (TBL_of (List.mem_of_getElem? (i := 1205) (by decide +kernel)) rfl)⟩
theorem mtX8_nearest : okMth KX8_nearest := ⟨(TBL_of (List.mem_of_getElem? (i := 1210) (by decide +kernel)) rfl), (TBL_of (List.mem_of_getElem? (i := 83) (by decide +kernel)) rfl), ⟨by decide +kernel, by decide +kernel⟩, by decide⟩
theorem imX8_nearest : Cond.instanceMethod yX8_nearest ∈ TBL := (TBL_of (List.mem_of_getElem? (i := 1208) (by decide +kernel)) rfl)
theorem ivX8_nearest : okInst KX8_nearest := ⟨imX8_nearest, (TBL_of (List.mem_of_getElem? (i := 1209) (by decide +kernel)) rfl)⟩
theorem mtX8_two : okMth KX8_two := ⟨(TBL_of (List.mem_of_getElem? (i := 1218) (by decide +kernel)) rfl), (TBL_of (List.mem_of_getElem? (i := 83) (by decide +kernel)) rfl), ⟨by decide +kernel, by decide +kernel⟩, by decide⟩
theorem imX8_two : Cond.instanceMethod yX8_two ∈ TBL := (TBL_of (List.mem_of_getElem? (i := 1216) (by decide +kernel)) rfl)
theorem ivX8_two : okInst KX8_two := ⟨imX8_two, (TBL_of (List.mem_of_getElem? (i := 1217) (by decide +kernel)) rfl)⟩
theorem mtX8_meet : okMth KX8_meet := ⟨(TBL_of (List.mem_of_getElem? (i := 1222) (by decide +kernel)) rfl), (TBL_of (List.mem_of_getElem? (i := 83) (by decide +kernel)) rfl), ⟨by decide +kernel, by decide +kernel⟩, by decide⟩
theorem imX8_meet : Cond.instanceMethod yX8_meet ∈ TBL := (TBL_of (List.mem_of_getElem? (i := 1220) (by decide +kernel)) rfl)
theorem ivX8_meet : okInst KX8_meet := ⟨imX8_meet, (TBL_of (List.mem_of_getElem? (i := 1221) (by decide +kernel)) rfl)⟩
theorem mtX8_looksForSeats : okMth KX8_looksForSeats := ⟨(TBL_of (List.mem_of_getElem? (i := 1242) (by decide +kernel)) rfl), (TBL_of (List.mem_of_getElem? (i := 83) (by decide +kernel)) rfl), ⟨by decide +kernel, by decide +kernel⟩, by decide⟩
theorem imX8_looksForSeats : Cond.instanceMethod yX8_looksForSeats ∈ TBL := (TBL_of (List.mem_of_getElem? (i := 1241) (by decide +kernel)) rfl)
theorem ivX8_looksForSeats : okInst KX8_looksForSeats := ⟨imX8_looksForSeats, (TBL_of (List.mem_of_getElem? (i := 59) (by decide +kernel)) rfl)⟩
theorem mtX8_spread : okMth KX8_spread := ⟨(TBL_of (List.mem_of_getElem? (i := 1258) (by decide +kernel)) rfl), (TBL_of (List.mem_of_getElem? (i := 83) (by decide +kernel)) rfl), ⟨by decide +kernel, by decide +kernel⟩, by decide⟩
theorem imX8_spread : Cond.instanceMethod yX8_spread ∈ TBL := (TBL_of (List.mem_of_getElem? (i := 1257) (by decide +kernel)) rfl)
theorem ivX8_spread : okInst KX8_spread := ⟨imX8_spread, (TBL_of (List.mem_of_getElem? (i := 63) (by decide +kernel)) rfl)⟩
theorem mtX8_worth : okMth KX8_worth := ⟨(TBL_of (List.mem_of_getElem? (i := 1254) (by decide +kernel)) rfl), (TBL_of (List.mem_of_getElem? (i := 83) (by decide +kernel)) rfl), ⟨by decide +kernel, by decide +kernel⟩, by decide⟩
theorem imX8_worth : Cond.instanceMethod yX8_worth ∈ TBL := (TBL_of (List.mem_of_getElem? (i := 1253) (by decide +kernel)) rfl)
theorem ivX8_worth : okInst KX8_worth := ⟨imX8_worth, (TBL_of (List.mem_of_getElem? (i := 62) (by decide +kernel)) rfl)⟩
theorem mtX8_keepsSeat : okMth KX8_keepsSeat := ⟨(TBL_of (List.mem_of_getElem? (i := 1250) (by decide +kernel)) rfl), (TBL_of (List.mem_of_getElem? (i := 83) (by decide +kernel)) rfl), ⟨by decide +kernel, by decide +kernel⟩, by decide⟩
theorem imX8_keepsSeat : Cond.instanceMethod yX8_keepsSeat ∈ TBL := (TBL_of (List.mem_of_getElem? (i := 1249) (by decide +kernel)) rfl)
theorem ivX8_keepsSeat : okInst KX8_keepsSeat := ⟨imX8_keepsSeat, (TBL_of (List.mem_of_getElem? (i := 61) (by decide +kernel)) rfl)⟩
theorem mtX8_seatsFrom : okMth KX8_seatsFrom := ⟨(TBL_of (List.mem_of_getElem? (i := 1246) (by decide +kernel)) rfl), (TBL_of (List.mem_of_getElem? (i := 83) (by decide +kernel)) rfl), ⟨by decide +kernel, by decide +kernel⟩, by decide⟩
theorem imX8_seatsFrom : Cond.instanceMethod yX8_seatsFrom ∈ TBL := (TBL_of (List.mem_of_getElem? (i := 1245) (by decide +kernel)) rfl)
theorem ivX8_seatsFrom : okInst KX8_seatsFrom := ⟨imX8_seatsFrom, (TBL_of (List.mem_of_getElem? (i := 60) (by decide +kernel)) rfl)⟩
theorem mtX8_looksForSeating : okMth KX8_looksForSeating := ⟨(TBL_of (List.mem_of_getElem? (i := 1238) (by decide +kernel)) rfl), (TBL_of (List.mem_of_getElem? (i := 83) (by decide +kernel)) rfl), ⟨by decide +kernel, by decide +kernel⟩, by decide⟩
theorem imX8_looksForSeating : Cond.instanceMethod yX8_looksForSeating ∈ TBL := (TBL_of (List.mem_of_getElem? (i := 1237) (by decide +kernel)) rfl)
theorem ivX8_looksForSeating : okInst KX8_looksForSeating := ⟨imX8_looksForSeating, (TBL_of (List.mem_of_getElem? (i := 58) (by decide +kernel)) rfl)⟩
theorem mtX8_everybody : okMth KX8_everybody := ⟨(TBL_of (List.mem_of_getElem? (i := 1234) (by decide +kernel)) rfl), (TBL_of (List.mem_of_getElem? (i := 83) (by decide +kernel)) rfl), ⟨by decide +kernel, by decide +kernel⟩, by decide⟩
theorem imX8_everybody : Cond.instanceMethod yX8_everybody ∈ TBL := (TBL_of (List.mem_of_getElem? (i := 1233) (by decide +kernel)) rfl)
theorem ivX8_everybody : okInst KX8_everybody := ⟨imX8_everybody, (TBL_of (List.mem_of_getElem? (i := 57) (by decide +kernel)) rfl)⟩
theorem mtX8_isAsked : okMth KX8_isAsked := ⟨(TBL_of (List.mem_of_getElem? (i := 1230) (by decide +kernel)) rfl), (TBL_of (List.mem_of_getElem? (i := 83) (by decide +kernel)) rfl), ⟨by decide +kernel, by decide +kernel⟩, by decide⟩
theorem imX8_isAsked : Cond.instanceMethod yX8_isAsked ∈ TBL := (TBL_of (List.mem_of_getElem? (i := 1229) (by decide +kernel)) rfl)
theorem ivX8_isAsked : okInst KX8_isAsked := ⟨imX8_isAsked, (TBL_of (List.mem_of_getElem? (i := 56) (by decide +kernel)) rfl)⟩
theorem mtX8_seatOf : okMth KX8_seatOf := ⟨(TBL_of (List.mem_of_getElem? (i := 1262) (by decide +kernel)) rfl), (TBL_of (List.mem_of_getElem? (i := 83) (by decide +kernel)) rfl), ⟨by decide +kernel, by decide +kernel⟩, by decide⟩
theorem imX8_seatOf : Cond.instanceMethod yX8_seatOf ∈ TBL := (TBL_of (List.mem_of_getElem? (i := 1261) (by decide +kernel)) rfl)
theorem ivX8_seatOf : okInst KX8_seatOf := ⟨imX8_seatOf, (TBL_of (List.mem_of_getElem? (i := 64) (by decide +kernel)) rfl)⟩
theorem mtX8_fewest : okMth KX8_fewest := ⟨(TBL_of (List.mem_of_getElem? (i := 1226) (by decide +kernel)) rfl), (TBL_of (List.mem_of_getElem? (i := 83) (by decide +kernel)) rfl), ⟨by decide +kernel, by decide +kernel⟩, by decide⟩
theorem imX8_fewest : Cond.instanceMethod yX8_fewest ∈ TBL := (TBL_of (List.mem_of_getElem? (i := 1224) (by decide +kernel)) rfl)
theorem ivX8_fewest : okInst KX8_fewest := ⟨imX8_fewest, (TBL_of (List.mem_of_getElem? (i := 1225) (by decide +kernel)) rfl)⟩
theorem mtX8_close : okMth KX8_close := ⟨(TBL_of (List.mem_of_getElem? (i := 1266) (by decide +kernel)) rfl), (TBL_of (List.mem_of_getElem? (i := 83) (by decide +kernel)) rfl), ⟨by decide +kernel, by decide +kernel⟩, by decide⟩
theorem imX8_close : Cond.instanceMethod yX8_close ∈ TBL := (TBL_of (List.mem_of_getElem? (i := 1264) (by decide +kernel)) rfl)
theorem ivX8_close : okInst KX8_close := ⟨imX8_close, (TBL_of (List.mem_of_getElem? (i := 1265) (by decide +kernel)) rfl)⟩
theorem mtX8_boldest : okMth KX8_boldest := ⟨(TBL_of (List.mem_of_getElem? (i := 1270) (by decide +kernel)) rfl), (TBL_of (List.mem_of_getElem? (i := 83) (by decide +kernel)) rfl), ⟨by decide +kernel, by decide +kernel⟩, by decide⟩
theorem imX8_boldest : Cond.instanceMethod yX8_boldest ∈ TBL := (TBL_of (List.mem_of_getElem? (i := 1268) (by decide +kernel)) rfl)
theorem ivX8_boldest : okInst KX8_boldest := ⟨imX8_boldest, (TBL_of (List.mem_of_getElem? (i := 1269) (by decide +kernel)) rfl)⟩
theorem mtX8_see : okMth KX8_see := ⟨(TBL_of (List.mem_of_getElem? (i := 1274) (by decide +kernel)) rfl), (TBL_of (List.mem_of_getElem? (i := 83) (by decide +kernel)) rfl), ⟨by decide +kernel, by decide +kernel⟩, by decide⟩
theorem imX8_see : Cond.instanceMethod yX8_see ∈ TBL := (TBL_of (List.mem_of_getElem? (i := 1272) (by decide +kernel)) rfl)
theorem ivX8_see : okInst KX8_see := ⟨imX8_see, (TBL_of (List.mem_of_getElem? (i := 1273) (by decide +kernel)) rfl)⟩
theorem mtX8_isAsSeen : okMth KX8_isAsSeen := ⟨(TBL_of (List.mem_of_getElem? (i := 1285) (by decide +kernel)) rfl), (TBL_of (List.mem_of_getElem? (i := 83) (by decide +kernel)) rfl), ⟨by decide +kernel, by decide +kernel⟩, by decide⟩
theorem imX8_isAsSeen : Cond.instanceMethod yX8_isAsSeen ∈ TBL := (TBL_of (List.mem_of_getElem? (i := 1284) (by decide +kernel)) rfl)
theorem ivX8_isAsSeen : okInst KX8_isAsSeen := ⟨imX8_isAsSeen, (TBL_of (List.mem_of_getElem? (i := 65) (by decide +kernel)) rfl)⟩
theorem mtX8_drank : okMth KX8_drank := ⟨(TBL_of (List.mem_of_getElem? (i := 1281) (by decide +kernel)) rfl), (TBL_of (List.mem_of_getElem? (i := 83) (by decide +kernel)) rfl), ⟨by decide +kernel, by decide +kernel⟩, by decide⟩
theorem imX8_drank : Cond.instanceMethod yX8_drank ∈ TBL := (TBL_of (List.mem_of_getElem? (i := 1279) (by decide +kernel)) rfl)
theorem ivX8_drank : okInst KX8_drank := ⟨imX8_drank, (TBL_of (List.mem_of_getElem? (i := 1280) (by decide +kernel)) rfl)⟩
theorem mtX8_looksForFitting : okMth KX8_looksForFitting := ⟨(TBL_of (List.mem_of_getElem? (i := 1293) (by decide +kernel)) rfl), (TBL_of (List.mem_of_getElem? (i := 83) (by decide +kernel)) rfl), ⟨by decide +kernel, by decide +kernel⟩, by decide⟩
theorem imX8_looksForFitting : Cond.instanceMethod yX8_looksForFitting ∈ TBL := (TBL_of (List.mem_of_getElem? (i := 1292) (by decide +kernel)) rfl)
theorem ivX8_looksForFitting : okInst KX8_looksForFitting := ⟨imX8_looksForFitting, (TBL_of (List.mem_of_getElem? (i := 66) (by decide +kernel)) rfl)⟩
theorem mtX8_birth : okMth KX8_birth := ⟨(TBL_of (List.mem_of_getElem? (i := 1289) (by decide +kernel)) rfl), (TBL_of (List.mem_of_getElem? (i := 83) (by decide +kernel)) rfl), ⟨by decide +kernel, by decide +kernel⟩, by decide⟩
theorem imX8_birth : Cond.instanceMethod yX8_birth ∈ TBL := (TBL_of (List.mem_of_getElem? (i := 1287) (by decide +kernel)) rfl)
theorem ivX8_birth : okInst KX8_birth := ⟨imX8_birth, (TBL_of (List.mem_of_getElem? (i := 1288) (by decide +kernel)) rfl)⟩
theorem mtX8_firm : okMth KX8_firm := ⟨(TBL_of (List.mem_of_getElem? (i := 1297) (by decide +kernel)) rfl), (TBL_of (List.mem_of_getElem? (i := 83) (by decide +kernel)) rfl), ⟨by decide +kernel, by decide +kernel⟩, by decide⟩
theorem imX8_firm : Cond.instanceMethod yX8_firm ∈ TBL := (TBL_of (List.mem_of_getElem? (i := 1295) (by decide +kernel)) rfl)
theorem ivX8_firm : okInst KX8_firm := ⟨imX8_firm, (TBL_of (List.mem_of_getElem? (i := 1296) (by decide +kernel)) rfl)⟩
theorem mtX8_lowest : okMth KX8_lowest := ⟨(TBL_of (List.mem_of_getElem? (i := 1305) (by decide +kernel)) rfl), (TBL_of (List.mem_of_getElem? (i := 83) (by decide +kernel)) rfl), ⟨by decide +kernel, by decide +kernel⟩, by decide⟩
theorem smX8_lowest : Cond.static yX8_lowest ∈ TBL := (TBL_of (List.mem_of_getElem? (i := 1304) (by decide +kernel)) rfl)
theorem mtX8_odds : okMth KX8_odds := ⟨(TBL_of (List.mem_of_getElem? (i := 1301) (by decide +kernel)) rfl), (TBL_of (List.mem_of_getElem? (i := 83) (by decide +kernel)) rfl), ⟨by decide +kernel, by decide +kernel⟩, by decide⟩
theorem imX8_odds : Cond.instanceMethod yX8_odds ∈ TBL := (TBL_of (List.mem_of_getElem? (i := 1299) (by decide +kernel)) rfl)
theorem ivX8_odds : okInst KX8_odds := ⟨imX8_odds, (TBL_of (List.mem_of_getElem? (i := 1300) (by decide +kernel)) rfl)⟩
theorem mtX8_mean : okMth KX8_mean := ⟨(TBL_of (List.mem_of_getElem? (i := 1309) (by decide +kernel)) rfl), (TBL_of (List.mem_of_getElem? (i := 83) (by decide +kernel)) rfl), ⟨by decide +kernel, by decide +kernel⟩, by decide⟩
theorem imX8_mean : Cond.instanceMethod yX8_mean ∈ TBL := (TBL_of (List.mem_of_getElem? (i := 1307) (by decide +kernel)) rfl)
theorem ivX8_mean : okInst KX8_mean := ⟨imX8_mean, (TBL_of (List.mem_of_getElem? (i := 1308) (by decide +kernel)) rfl)⟩
theorem mtX8_night : okMth KX8_night := ⟨(TBL_of (List.mem_of_getElem? (i := 1316) (by decide +kernel)) rfl), (TBL_of (List.mem_of_getElem? (i := 83) (by decide +kernel)) rfl), ⟨by decide +kernel, by decide +kernel⟩, by decide⟩
theorem imX8_night : Cond.instanceMethod yX8_night ∈ TBL := (TBL_of (List.mem_of_getElem? (i := 1314) (by decide +kernel)) rfl)
theorem ivX8_night : okInst KX8_night := ⟨imX8_night, (TBL_of (List.mem_of_getElem? (i := 1315) (by decide +kernel)) rfl)⟩
theorem mtX8_does : okMth KX8_does := ⟨(TBL_of (List.mem_of_getElem? (i := 1324) (by decide +kernel)) rfl), (TBL_of (List.mem_of_getElem? (i := 83) (by decide +kernel)) rfl), ⟨by decide +kernel, by decide +kernel⟩, by decide⟩
theorem imX8_does : Cond.instanceMethod yX8_does ∈ TBL := (TBL_of (List.mem_of_getElem? (i := 1323) (by decide +kernel)) rfl)
theorem ivX8_does : okInst KX8_does := ⟨imX8_does, (TBL_of (List.mem_of_getElem? (i := 67) (by decide +kernel)) rfl)⟩
theorem mtX8_done : okMth KX8_done := ⟨(TBL_of (List.mem_of_getElem? (i := 1320) (by decide +kernel)) rfl), (TBL_of (List.mem_of_getElem? (i := 83) (by decide +kernel)) rfl), ⟨by decide +kernel, by decide +kernel⟩, by decide⟩
theorem imX8_done : Cond.instanceMethod yX8_done ∈ TBL := (TBL_of (List.mem_of_getElem? (i := 1318) (by decide +kernel)) rfl)
theorem ivX8_done : okInst KX8_done := ⟨imX8_done, (TBL_of (List.mem_of_getElem? (i := 1319) (by decide +kernel)) rfl)⟩
theorem mtX8_book : okMth KX8_book := ⟨(TBL_of (List.mem_of_getElem? (i := 1328) (by decide +kernel)) rfl), (TBL_of (List.mem_of_getElem? (i := 83) (by decide +kernel)) rfl), ⟨by decide +kernel, by decide +kernel⟩, by decide⟩
theorem imX8_book : Cond.instanceMethod yX8_book ∈ TBL := (TBL_of (List.mem_of_getElem? (i := 1326) (by decide +kernel)) rfl)
theorem ivX8_book : okInst KX8_book := ⟨imX8_book, (TBL_of (List.mem_of_getElem? (i := 1327) (by decide +kernel)) rfl)⟩
theorem mtX8_looked : okMth KX8_looked := ⟨(TBL_of (List.mem_of_getElem? (i := 1332) (by decide +kernel)) rfl), (TBL_of (List.mem_of_getElem? (i := 83) (by decide +kernel)) rfl), ⟨by decide +kernel, by decide +kernel⟩, by decide⟩
theorem imX8_looked : Cond.instanceMethod yX8_looked ∈ TBL := (TBL_of (List.mem_of_getElem? (i := 1330) (by decide +kernel)) rfl)
theorem ivX8_looked : okInst KX8_looked := ⟨imX8_looked, (TBL_of (List.mem_of_getElem? (i := 1331) (by decide +kernel)) rfl)⟩
theorem mtX8_ranBody : okMth KX8_ranBody := ⟨(TBL_of (List.mem_of_getElem? (i := 1347) (by decide +kernel)) rfl), (TBL_of (List.mem_of_getElem? (i := 83) (by decide +kernel)) rfl), ⟨by decide +kernel, by decide +kernel⟩, by decide⟩
theorem imX8_ranBody : Cond.instanceMethod yX8_ranBody ∈ TBL := (TBL_of (List.mem_of_getElem? (i := 1346) (by decide +kernel)) rfl)
theorem ivX8_ranBody : okInst KX8_ranBody := ⟨imX8_ranBody, (TBL_of (List.mem_of_getElem? (i := 69) (by decide +kernel)) rfl)⟩
theorem mtX8_isUnder : okMth KX8_isUnder := ⟨(TBL_of (List.mem_of_getElem? (i := 1343) (by decide +kernel)) rfl), (TBL_of (List.mem_of_getElem? (i := 83) (by decide +kernel)) rfl), ⟨by decide +kernel, by decide +kernel⟩, by decide⟩
theorem smX8_isUnder : Cond.static yX8_isUnder ∈ TBL := (TBL_of (List.mem_of_getElem? (i := 1342) (by decide +kernel)) rfl)
theorem mtX8_plainDrinks : okMth KX8_plainDrinks := ⟨(TBL_of (List.mem_of_getElem? (i := 1351) (by decide +kernel)) rfl), (TBL_of (List.mem_of_getElem? (i := 83) (by decide +kernel)) rfl), ⟨by decide +kernel, by decide +kernel⟩, by decide⟩
theorem imX8_plainDrinks : Cond.instanceMethod yX8_plainDrinks ∈ TBL := (TBL_of (List.mem_of_getElem? (i := 1350) (by decide +kernel)) rfl)
theorem ivX8_plainDrinks : okInst KX8_plainDrinks := ⟨imX8_plainDrinks, (TBL_of (List.mem_of_getElem? (i := 70) (by decide +kernel)) rfl)⟩
theorem mtX8_drinksActs : okMth KX8_drinksActs := ⟨(TBL_of (List.mem_of_getElem? (i := 1340) (by decide +kernel)) rfl), (TBL_of (List.mem_of_getElem? (i := 83) (by decide +kernel)) rfl), ⟨by decide +kernel, by decide +kernel⟩, by decide⟩
theorem imX8_drinksActs : Cond.instanceMethod yX8_drinksActs ∈ TBL := (TBL_of (List.mem_of_getElem? (i := 1339) (by decide +kernel)) rfl)
theorem ivX8_drinksActs : okInst KX8_drinksActs := ⟨imX8_drinksActs, (TBL_of (List.mem_of_getElem? (i := 68) (by decide +kernel)) rfl)⟩
theorem mtX8_plainAges : okMth KX8_plainAges := ⟨(TBL_of (List.mem_of_getElem? (i := 1359) (by decide +kernel)) rfl), (TBL_of (List.mem_of_getElem? (i := 83) (by decide +kernel)) rfl), ⟨by decide +kernel, by decide +kernel⟩, by decide⟩
theorem imX8_plainAges : Cond.instanceMethod yX8_plainAges ∈ TBL := (TBL_of (List.mem_of_getElem? (i := 1358) (by decide +kernel)) rfl)
theorem ivX8_plainAges : okInst KX8_plainAges := ⟨imX8_plainAges, (TBL_of (List.mem_of_getElem? (i := 72) (by decide +kernel)) rfl)⟩
theorem mtX8_agesActs : okMth KX8_agesActs := ⟨(TBL_of (List.mem_of_getElem? (i := 1355) (by decide +kernel)) rfl), (TBL_of (List.mem_of_getElem? (i := 83) (by decide +kernel)) rfl), ⟨by decide +kernel, by decide +kernel⟩, by decide⟩
theorem imX8_agesActs : Cond.instanceMethod yX8_agesActs ∈ TBL := (TBL_of (List.mem_of_getElem? (i := 1354) (by decide +kernel)) rfl)
theorem ivX8_agesActs : okInst KX8_agesActs := ⟨imX8_agesActs, (TBL_of (List.mem_of_getElem? (i := 71) (by decide +kernel)) rfl)⟩
theorem mtX8_plainTelling : okMth KX8_plainTelling := ⟨(TBL_of (List.mem_of_getElem? (i := 1367) (by decide +kernel)) rfl), (TBL_of (List.mem_of_getElem? (i := 83) (by decide +kernel)) rfl), ⟨by decide +kernel, by decide +kernel⟩, by decide⟩
theorem imX8_plainTelling : Cond.instanceMethod yX8_plainTelling ∈ TBL := (TBL_of (List.mem_of_getElem? (i := 1366) (by decide +kernel)) rfl)
theorem ivX8_plainTelling : okInst KX8_plainTelling := ⟨imX8_plainTelling, (TBL_of (List.mem_of_getElem? (i := 74) (by decide +kernel)) rfl)⟩
theorem mtX8_tellsActs : okMth KX8_tellsActs := ⟨(TBL_of (List.mem_of_getElem? (i := 1363) (by decide +kernel)) rfl), (TBL_of (List.mem_of_getElem? (i := 83) (by decide +kernel)) rfl), ⟨by decide +kernel, by decide +kernel⟩, by decide⟩
theorem imX8_tellsActs : Cond.instanceMethod yX8_tellsActs ∈ TBL := (TBL_of (List.mem_of_getElem? (i := 1362) (by decide +kernel)) rfl)
theorem ivX8_tellsActs : okInst KX8_tellsActs := ⟨imX8_tellsActs, (TBL_of (List.mem_of_getElem? (i := 73) (by decide +kernel)) rfl)⟩
theorem mtX8_act : okMth KX8_act := ⟨(TBL_of (List.mem_of_getElem? (i := 1336) (by decide +kernel)) rfl), (TBL_of (List.mem_of_getElem? (i := 83) (by decide +kernel)) rfl), ⟨by decide +kernel, by decide +kernel⟩, by decide⟩
theorem imX8_act : Cond.instanceMethod yX8_act ∈ TBL := (TBL_of (List.mem_of_getElem? (i := 1334) (by decide +kernel)) rfl)
theorem ivX8_act : okInst KX8_act := ⟨imX8_act, (TBL_of (List.mem_of_getElem? (i := 1335) (by decide +kernel)) rfl)⟩
theorem mtX8_trace : okMth KX8_trace := ⟨(TBL_of (List.mem_of_getElem? (i := 1371) (by decide +kernel)) rfl), (TBL_of (List.mem_of_getElem? (i := 83) (by decide +kernel)) rfl), ⟨by decide +kernel, by decide +kernel⟩, by decide⟩
theorem imX8_trace : Cond.instanceMethod yX8_trace ∈ TBL := (TBL_of (List.mem_of_getElem? (i := 1369) (by decide +kernel)) rfl)
theorem ivX8_trace : okInst KX8_trace := ⟨imX8_trace, (TBL_of (List.mem_of_getElem? (i := 1370) (by decide +kernel)) rfl)⟩
theorem mtX8_as : okMth KX8_as := ⟨(TBL_of (List.mem_of_getElem? (i := 1375) (by decide +kernel)) rfl), (TBL_of (List.mem_of_getElem? (i := 83) (by decide +kernel)) rfl), ⟨by decide +kernel, by decide +kernel⟩, by decide⟩
theorem imX8_as : Cond.instanceMethod yX8_as ∈ TBL := (TBL_of (List.mem_of_getElem? (i := 1373) (by decide +kernel)) rfl)
theorem ivX8_as : okInst KX8_as := ⟨imX8_as, (TBL_of (List.mem_of_getElem? (i := 1374) (by decide +kernel)) rfl)⟩
theorem mtX8_image : okMth KX8_image := ⟨(TBL_of (List.mem_of_getElem? (i := 1379) (by decide +kernel)) rfl), (TBL_of (List.mem_of_getElem? (i := 83) (by decide +kernel)) rfl), ⟨by decide +kernel, by decide +kernel⟩, by decide⟩
theorem imX8_image : Cond.instanceMethod yX8_image ∈ TBL := (TBL_of (List.mem_of_getElem? (i := 1377) (by decide +kernel)) rfl)
theorem ivX8_image : okInst KX8_image := ⟨imX8_image, (TBL_of (List.mem_of_getElem? (i := 1378) (by decide +kernel)) rfl)⟩
theorem mtX8_undo : okMth KX8_undo := ⟨(TBL_of (List.mem_of_getElem? (i := 1383) (by decide +kernel)) rfl), (TBL_of (List.mem_of_getElem? (i := 83) (by decide +kernel)) rfl), ⟨by decide +kernel, by decide +kernel⟩, by decide⟩
theorem imX8_undo : Cond.instanceMethod yX8_undo ∈ TBL := (TBL_of (List.mem_of_getElem? (i := 1381) (by decide +kernel)) rfl)
theorem ivX8_undo : okInst KX8_undo := ⟨imX8_undo, (TBL_of (List.mem_of_getElem? (i := 1382) (by decide +kernel)) rfl)⟩
theorem mtX8_count : okMth KX8_count := ⟨(TBL_of (List.mem_of_getElem? (i := 1387) (by decide +kernel)) rfl), (TBL_of (List.mem_of_getElem? (i := 83) (by decide +kernel)) rfl), ⟨by decide +kernel, by decide +kernel⟩, by decide⟩
theorem imX8_count : Cond.instanceMethod yX8_count ∈ TBL := (TBL_of (List.mem_of_getElem? (i := 1385) (by decide +kernel)) rfl)
theorem ivX8_count : okInst KX8_count := ⟨imX8_count, (TBL_of (List.mem_of_getElem? (i := 1386) (by decide +kernel)) rfl)⟩
theorem mtJ6_bitCount_0f7a4 : okMth KJ6_bitCount_0f7a4 := ⟨(TBL_of (List.mem_of_getElem? (i := 867) (by decide +kernel)) rfl), (TBL_of (List.mem_of_getElem? (i := 92) (by decide +kernel)) rfl), ⟨by decide +kernel, by decide +kernel⟩, by decide⟩
theorem smJ6_bitCount_0f7a4 : Cond.static yJ6_bitCount_0f7a4 ∈ TBL := (TBL_of (List.mem_of_getElem? (i := 866) (by decide +kernel)) rfl)
theorem mtJ0_length_8abf5 : okMth KJ0_length_8abf5 := ⟨(TBL_of (List.mem_of_getElem? (i := 414) (by decide +kernel)) rfl), (TBL_of (List.mem_of_getElem? (i := 85) (by decide +kernel)) rfl), ⟨by decide +kernel, by decide +kernel⟩, by decide⟩
theorem imJ0_length_8abf5 : Cond.instanceMethod yJ0_length_8abf5 ∈ TBL := (TBL_of (List.mem_of_getElem? (i := 412) (by decide +kernel)) rfl)
theorem ivJ0_length_8abf5 : okInst KJ0_length_8abf5 := ⟨imJ0_length_8abf5, (TBL_of (List.mem_of_getElem? (i := 413) (by decide +kernel)) rfl)⟩
theorem mtJ0_charAt_5068e : okMth KJ0_charAt_5068e := ⟨(TBL_of (List.mem_of_getElem? (i := 424) (by decide +kernel)) rfl), (TBL_of (List.mem_of_getElem? (i := 85) (by decide +kernel)) rfl), ⟨by decide +kernel, by decide +kernel⟩, by decide⟩
theorem imJ0_charAt_5068e : Cond.instanceMethod yJ0_charAt_5068e ∈ TBL := (TBL_of (List.mem_of_getElem? (i := 422) (by decide +kernel)) rfl)
theorem ivJ0_charAt_5068e : okInst KJ0_charAt_5068e := ⟨imJ0_charAt_5068e, (TBL_of (List.mem_of_getElem? (i := 423) (by decide +kernel)) rfl)⟩
theorem mtJ0_indexOf_0f7a4 : okMth KJ0_indexOf_0f7a4 := ⟨(TBL_of (List.mem_of_getElem? (i := 490) (by decide +kernel)) rfl), (TBL_of (List.mem_of_getElem? (i := 85) (by decide +kernel)) rfl), ⟨by decide +kernel, by decide +kernel⟩, by decide⟩
theorem imJ0_indexOf_0f7a4 : Cond.instanceMethod yJ0_indexOf_0f7a4 ∈ TBL := (TBL_of (List.mem_of_getElem? (i := 488) (by decide +kernel)) rfl)
theorem ivJ0_indexOf_0f7a4 : okInst KJ0_indexOf_0f7a4 := ⟨imJ0_indexOf_0f7a4, (TBL_of (List.mem_of_getElem? (i := 489) (by decide +kernel)) rfl)⟩
theorem mtJ0_indexOf_7cf53 : okMth KJ0_indexOf_7cf53 := ⟨(TBL_of (List.mem_of_getElem? (i := 494) (by decide +kernel)) rfl), (TBL_of (List.mem_of_getElem? (i := 85) (by decide +kernel)) rfl), ⟨by decide +kernel, by decide +kernel⟩, by decide⟩
theorem imJ0_indexOf_7cf53 : Cond.instanceMethod yJ0_indexOf_7cf53 ∈ TBL := (TBL_of (List.mem_of_getElem? (i := 492) (by decide +kernel)) rfl)
theorem ivJ0_indexOf_7cf53 : okInst KJ0_indexOf_7cf53 := ⟨imJ0_indexOf_7cf53, (TBL_of (List.mem_of_getElem? (i := 493) (by decide +kernel)) rfl)⟩
theorem mtJ0_coder_7d493 : okMth KJ0_coder_7d493 := ⟨(TBL_of (List.mem_of_getElem? (i := 418) (by decide +kernel)) rfl), (TBL_of (List.mem_of_getElem? (i := 85) (by decide +kernel)) rfl), ⟨by decide +kernel, by decide +kernel⟩, by decide⟩
theorem imJ0_coder_7d493 : Cond.instanceMethod yJ0_coder_7d493 ∈ TBL := (TBL_of (List.mem_of_getElem? (i := 416) (by decide +kernel)) rfl)
theorem ivJ0_coder_7d493 : okInst KJ0_coder_7d493 := ⟨imJ0_coder_7d493, (TBL_of (List.mem_of_getElem? (i := 417) (by decide +kernel)) rfl)⟩
theorem mtJ0_isLatin1_aae02 : okMth KJ0_isLatin1_aae02 := ⟨(TBL_of (List.mem_of_getElem? (i := 428) (by decide +kernel)) rfl), (TBL_of (List.mem_of_getElem? (i := 85) (by decide +kernel)) rfl), ⟨by decide +kernel, by decide +kernel⟩, by decide⟩
theorem imJ0_isLatin1_aae02 : Cond.instanceMethod yJ0_isLatin1_aae02 ∈ TBL := (TBL_of (List.mem_of_getElem? (i := 426) (by decide +kernel)) rfl)
theorem ivJ0_isLatin1_aae02 : okInst KJ0_isLatin1_aae02 := ⟨imJ0_isLatin1_aae02, (TBL_of (List.mem_of_getElem? (i := 427) (by decide +kernel)) rfl)⟩
theorem mtJ0_checkIndex_df160 : okMth KJ0_checkIndex_df160 := ⟨(TBL_of (List.mem_of_getElem? (i := 434) (by decide +kernel)) rfl), (TBL_of (List.mem_of_getElem? (i := 85) (by decide +kernel)) rfl), ⟨by decide +kernel, by decide +kernel⟩, by decide⟩
theorem smJ0_checkIndex_df160 : Cond.static yJ0_checkIndex_df160 ∈ TBL := (TBL_of (List.mem_of_getElem? (i := 433) (by decide +kernel)) rfl)
theorem mtJ1_charAt_3b067 : okMth KJ1_charAt_3b067 := ⟨(TBL_of (List.mem_of_getElem? (i := 431) (by decide +kernel)) rfl), (TBL_of (List.mem_of_getElem? (i := 86) (by decide +kernel)) rfl), ⟨by decide +kernel, by decide +kernel⟩, by decide⟩
theorem smJ1_charAt_3b067 : Cond.static yJ1_charAt_3b067 ∈ TBL := (TBL_of (List.mem_of_getElem? (i := 430) (by decide +kernel)) rfl)
theorem mtJ1_canEncode_9a6ad : okMth KJ1_canEncode_9a6ad := ⟨(TBL_of (List.mem_of_getElem? (i := 501) (by decide +kernel)) rfl), (TBL_of (List.mem_of_getElem? (i := 86) (by decide +kernel)) rfl), ⟨by decide +kernel, by decide +kernel⟩, by decide⟩
theorem smJ1_canEncode_9a6ad : Cond.static yJ1_canEncode_9a6ad ∈ TBL := (TBL_of (List.mem_of_getElem? (i := 500) (by decide +kernel)) rfl)
theorem mtJ1_indexOf_4cfef : okMth KJ1_indexOf_4cfef := ⟨(TBL_of (List.mem_of_getElem? (i := 498) (by decide +kernel)) rfl), (TBL_of (List.mem_of_getElem? (i := 86) (by decide +kernel)) rfl), ⟨by decide +kernel, by decide +kernel⟩, by decide⟩
theorem smJ1_indexOf_4cfef : Cond.static yJ1_indexOf_4cfef ∈ TBL := (TBL_of (List.mem_of_getElem? (i := 497) (by decide +kernel)) rfl)
theorem mtJ1_indexOfChar_4cfef : okMth KJ1_indexOfChar_4cfef := ⟨(TBL_of (List.mem_of_getElem? (i := 510) (by decide +kernel)) rfl), (TBL_of (List.mem_of_getElem? (i := 86) (by decide +kernel)) rfl), ⟨by decide +kernel, by decide +kernel⟩, by decide⟩
theorem smJ1_indexOfChar_4cfef : Cond.static yJ1_indexOfChar_4cfef ∈ TBL := (TBL_of (List.mem_of_getElem? (i := 509) (by decide +kernel)) rfl)
theorem mtJ3_checkIndex_8e157 : okMth KJ3_checkIndex_8e157 := ⟨(TBL_of (List.mem_of_getElem? (i := 439) (by decide +kernel)) rfl), (TBL_of (List.mem_of_getElem? (i := 87) (by decide +kernel)) rfl), ⟨by decide +kernel, by decide +kernel⟩, by decide⟩
theorem smJ3_checkIndex_8e157 : Cond.static yJ3_checkIndex_8e157 ∈ TBL := (TBL_of (List.mem_of_getElem? (i := 438) (by decide +kernel)) rfl)
theorem iniL : Cond.initialized "DrunkByYearLaw" ∈ TBL := (TBL_of (List.mem_of_getElem? (i := 75) (by decide +kernel)) rfl)
theorem iniX7 : Cond.initialized "DrunkByYear" ∈ TBL := (TBL_of (List.mem_of_getElem? (i := 76) (by decide +kernel)) rfl)
theorem iniX0 : Cond.initialized "DrunkByYear$Acts" ∈ TBL := (TBL_of (List.mem_of_getElem? (i := 77) (by decide +kernel)) rfl)
theorem iniX5 : Cond.initialized "DrunkByYear$Village" ∈ TBL := (TBL_of (List.mem_of_getElem? (i := 78) (by decide +kernel)) rfl)
theorem iniX6 : Cond.initialized "DrunkByYear$World" ∈ TBL := (TBL_of (List.mem_of_getElem? (i := 79) (by decide +kernel)) rfl)
theorem iniX3 : Cond.initialized "DrunkByYear$Rows" ∈ TBL := (TBL_of (List.mem_of_getElem? (i := 80) (by decide +kernel)) rfl)
theorem iniX1 : Cond.initialized "DrunkByYear$Person" ∈ TBL := (TBL_of (List.mem_of_getElem? (i := 81) (by decide +kernel)) rfl)
theorem iniX4 : Cond.initialized "DrunkByYear$Search" ∈ TBL := (TBL_of (List.mem_of_getElem? (i := 82) (by decide +kernel)) rfl)
theorem iniX8 : Cond.initialized "DrunkByYearModel" ∈ TBL := (TBL_of (List.mem_of_getElem? (i := 83) (by decide +kernel)) rfl)
theorem iniX2 : Cond.initialized "DrunkByYear$Reader" ∈ TBL := (TBL_of (List.mem_of_getElem? (i := 84) (by decide +kernel)) rfl)
theorem iniJ0 : Cond.initialized "java/lang/String" ∈ TBL := (TBL_of (List.mem_of_getElem? (i := 85) (by decide +kernel)) rfl)
theorem iniJ1 : Cond.initialized "java/lang/StringLatin1" ∈ TBL := (TBL_of (List.mem_of_getElem? (i := 86) (by decide +kernel)) rfl)
theorem iniJ3 : Cond.initialized "jdk/internal/util/Preconditions" ∈ TBL := (TBL_of (List.mem_of_getElem? (i := 87) (by decide +kernel)) rfl)
theorem iniJ2 : Cond.initialized "java/lang/StringUTF16" ∈ TBL := (TBL_of (List.mem_of_getElem? (i := 88) (by decide +kernel)) rfl)
theorem iniJ9 : Cond.initialized "java/lang/Math" ∈ TBL := (TBL_of (List.mem_of_getElem? (i := 89) (by decide +kernel)) rfl)
theorem iniJ11 : Cond.initialized "java/lang/Character" ∈ TBL := (TBL_of (List.mem_of_getElem? (i := 90) (by decide +kernel)) rfl)
theorem iniJ10 : Cond.initialized "java/lang/System" ∈ TBL := (TBL_of (List.mem_of_getElem? (i := 91) (by decide +kernel)) rfl)
theorem iniJ6 : Cond.initialized "java/lang/Integer" ∈ TBL := (TBL_of (List.mem_of_getElem? (i := 92) (by decide +kernel)) rfl)
theorem clL_7 : Cond.classLink RL 7 "DrunkByYear" ∈ TBL := (TBL_of (List.mem_of_getElem? (i := 93) (by decide +kernel)) rfl)
theorem insX7 : Cond.instantiable RX7 7 ∈ TBL := (TBL_of (List.mem_of_getElem? (i := 94) (by decide +kernel)) rfl)
theorem mlL_9 : Cond.methodLink RL 9 yX7_init ∈ TBL := (TBL_of (List.mem_of_getElem? (i := 95) (by decide +kernel)) rfl)
theorem mlX7_3 : Cond.methodLink RX7 3 Lib.objectInit ∈ TBL := (TBL_of (List.mem_of_getElem? (i := 98) (by decide +kernel)) rfl)
theorem clX7_11 : Cond.classLink RX7 11 "DrunkByYear$Village" ∈ TBL := (TBL_of (List.mem_of_getElem? (i := 101) (by decide +kernel)) rfl)
theorem clX7_17 : Cond.classLink RX7 17 "DrunkByYear$Acts" ∈ TBL := (TBL_of (List.mem_of_getElem? (i := 103) (by decide +kernel)) rfl)
theorem insX0 : Cond.instantiable RX0 2 ∈ TBL := (TBL_of (List.mem_of_getElem? (i := 104) (by decide +kernel)) rfl)
theorem mlX0_3 : Cond.methodLink RX0 3 Lib.objectInit ∈ TBL := (TBL_of (List.mem_of_getElem? (i := 108) (by decide +kernel)) rfl)
theorem lkX0_9 : Cond.fieldLink RX0 9 (gT 0 0).1 (gT 0 0).2.1 (gT 0 0).2.2.1 ∈ TBL := (TBL_of (List.mem_of_getElem? (i := 109) (by decide +kernel)) rfl)
theorem lkX0_41 : Cond.fieldLink RX0 41 (gT 0 1).1 (gT 0 1).2.1 (gT 0 1).2.2.1 ∈ TBL := (TBL_of (List.mem_of_getElem? (i := 111) (by decide +kernel)) rfl)
theorem ac_int : Cond.arrayClass .int ∈ TBL := (TBL_of (List.mem_of_getElem? (i := 118) (by decide +kernel)) rfl)
theorem insX5 : Cond.instantiable RX5 7 ∈ TBL := (TBL_of (List.mem_of_getElem? (i := 119) (by decide +kernel)) rfl)
theorem mlX7_24 : Cond.methodLink RX7 24 yX5_init ∈ TBL := (TBL_of (List.mem_of_getElem? (i := 120) (by decide +kernel)) rfl)
theorem mlX5_3 : Cond.methodLink RX5 3 Lib.objectInit ∈ TBL := (TBL_of (List.mem_of_getElem? (i := 123) (by decide +kernel)) rfl)
theorem mlX5_21 : Cond.methodLink RX5 21 yX5_forget ∈ TBL := (TBL_of (List.mem_of_getElem? (i := 124) (by decide +kernel)) rfl)
theorem lkX5_24 : Cond.fieldLink RX5 24 (gT 5 0).1 (gT 5 0).2.1 (gT 5 0).2.2.1 ∈ TBL := (TBL_of (List.mem_of_getElem? (i := 128) (by decide +kernel)) rfl)
theorem lkX5_28 : Cond.fieldLink RX5 28 (gT 5 1).1 (gT 5 1).2.1 (gT 5 1).2.2.1 ∈ TBL := (TBL_of (List.mem_of_getElem? (i := 132) (by decide +kernel)) rfl)
theorem lkX5_31 : Cond.fieldLink RX5 31 (gT 5 2).1 (gT 5 2).2.1 (gT 5 2).2.2.1 ∈ TBL := (TBL_of (List.mem_of_getElem? (i := 136) (by decide +kernel)) rfl)
theorem lkX5_34 : Cond.fieldLink RX5 34 (gT 5 3).1 (gT 5 3).2.1 (gT 5 3).2.2.1 ∈ TBL := (TBL_of (List.mem_of_getElem? (i := 137) (by decide +kernel)) rfl)
theorem lkX5_9 : Cond.fieldLink RX5 9 (gT 5 4).1 (gT 5 4).2.1 (gT 5 4).2.2.1 ∈ TBL := (TBL_of (List.mem_of_getElem? (i := 138) (by decide +kernel)) rfl)
theorem lkX5_15 : Cond.fieldLink RX5 15 (gT 5 5).1 (gT 5 5).2.1 (gT 5 5).2.2.1 ∈ TBL := (TBL_of (List.mem_of_getElem? (i := 139) (by decide +kernel)) rfl)
theorem lkX5_18 : Cond.fieldLink RX5 18 (gT 5 6).1 (gT 5 6).2.1 (gT 5 6).2.2.1 ∈ TBL := (TBL_of (List.mem_of_getElem? (i := 140) (by decide +kernel)) rfl)
theorem clX7_25 : Cond.classLink RX7 25 "DrunkByYear$World" ∈ TBL := (TBL_of (List.mem_of_getElem? (i := 156) (by decide +kernel)) rfl)
theorem insX6 : Cond.instantiable RX6 14 ∈ TBL := (TBL_of (List.mem_of_getElem? (i := 157) (by decide +kernel)) rfl)
theorem mlX7_27 : Cond.methodLink RX7 27 yX6_init ∈ TBL := (TBL_of (List.mem_of_getElem? (i := 158) (by decide +kernel)) rfl)
theorem mlX6_3 : Cond.methodLink RX6 3 Lib.objectInit ∈ TBL := (TBL_of (List.mem_of_getElem? (i := 161) (by decide +kernel)) rfl)
theorem clX6_15 : Cond.classLink RX6 15 "DrunkByYear$Person" ∈ TBL := (TBL_of (List.mem_of_getElem? (i := 162) (by decide +kernel)) rfl)
theorem clX6_32 : Cond.classLink RX6 32 "DrunkByYear$Rows" ∈ TBL := (TBL_of (List.mem_of_getElem? (i := 164) (by decide +kernel)) rfl)
theorem insX3 : Cond.instantiable RX3 4 ∈ TBL := (TBL_of (List.mem_of_getElem? (i := 165) (by decide +kernel)) rfl)
theorem mlX6_34 : Cond.methodLink RX6 34 yX3_init ∈ TBL := (TBL_of (List.mem_of_getElem? (i := 166) (by decide +kernel)) rfl)
theorem mlX3_3 : Cond.methodLink RX3 3 Lib.objectInit ∈ TBL := (TBL_of (List.mem_of_getElem? (i := 169) (by decide +kernel)) rfl)
theorem lkX3_9 : Cond.fieldLink RX3 9 (gT 3 0).1 (gT 3 0).2.1 (gT 3 0).2.2.1 ∈ TBL := (TBL_of (List.mem_of_getElem? (i := 170) (by decide +kernel)) rfl)
theorem lkX3_15 : Cond.fieldLink RX3 15 (gT 3 1).1 (gT 3 1).2.1 (gT 3 1).2.2.1 ∈ TBL := (TBL_of (List.mem_of_getElem? (i := 172) (by decide +kernel)) rfl)
theorem lkX3_18 : Cond.fieldLink RX3 18 (gT 3 2).1 (gT 3 2).2.1 (gT 3 2).2.2.1 ∈ TBL := (TBL_of (List.mem_of_getElem? (i := 175) (by decide +kernel)) rfl)
theorem lkX3_21 : Cond.fieldLink RX3 21 (gT 3 3).1 (gT 3 3).2.1 (gT 3 3).2.2.1 ∈ TBL := (TBL_of (List.mem_of_getElem? (i := 178) (by decide +kernel)) rfl)
theorem ac_char : Cond.arrayClass .char ∈ TBL := (TBL_of (List.mem_of_getElem? (i := 190) (by decide +kernel)) rfl)
theorem insX1 : Cond.instantiable RX1 7 ∈ TBL := (TBL_of (List.mem_of_getElem? (i := 191) (by decide +kernel)) rfl)
theorem mlX6_56 : Cond.methodLink RX6 56 yX1_init ∈ TBL := (TBL_of (List.mem_of_getElem? (i := 192) (by decide +kernel)) rfl)
theorem mlX1_3 : Cond.methodLink RX1 3 Lib.objectInit ∈ TBL := (TBL_of (List.mem_of_getElem? (i := 195) (by decide +kernel)) rfl)
theorem lkX1_19 : Cond.fieldLink RX1 19 (gT 1 0).1 (gT 1 0).2.1 (gT 1 0).2.2.1 ∈ TBL := (TBL_of (List.mem_of_getElem? (i := 196) (by decide +kernel)) rfl)
theorem lkX1_22 : Cond.fieldLink RX1 22 (gT 1 1).1 (gT 1 1).2.1 (gT 1 1).2.2.1 ∈ TBL := (TBL_of (List.mem_of_getElem? (i := 198) (by decide +kernel)) rfl)
theorem lkX1_25 : Cond.fieldLink RX1 25 (gT 1 2).1 (gT 1 2).2.1 (gT 1 2).2.2.1 ∈ TBL := (TBL_of (List.mem_of_getElem? (i := 202) (by decide +kernel)) rfl)
theorem lkX1_28 : Cond.fieldLink RX1 28 (gT 1 3).1 (gT 1 3).2.1 (gT 1 3).2.2.1 ∈ TBL := (TBL_of (List.mem_of_getElem? (i := 206) (by decide +kernel)) rfl)
theorem lkX1_31 : Cond.fieldLink RX1 31 (gT 1 4).1 (gT 1 4).2.1 (gT 1 4).2.2.1 ∈ TBL := (TBL_of (List.mem_of_getElem? (i := 208) (by decide +kernel)) rfl)
theorem lkX1_9 : Cond.fieldLink RX1 9 (gT 1 5).1 (gT 1 5).2.1 (gT 1 5).2.2.1 ∈ TBL := (TBL_of (List.mem_of_getElem? (i := 210) (by decide +kernel)) rfl)
theorem lkX1_15 : Cond.fieldLink RX1 15 (gT 1 6).1 (gT 1 6).2.1 (gT 1 6).2.2.1 ∈ TBL := (TBL_of (List.mem_of_getElem? (i := 213) (by decide +kernel)) rfl)
theorem lkX6_9 : Cond.fieldLink RX6 9 (gT 6 0).1 (gT 6 0).2.1 (gT 6 0).2.2.1 ∈ TBL := (TBL_of (List.mem_of_getElem? (i := 230) (by decide +kernel)) rfl)
theorem lkX6_57 : Cond.fieldLink RX6 57 (gT 6 1).1 (gT 6 1).2.1 (gT 6 1).2.2.1 ∈ TBL := (TBL_of (List.mem_of_getElem? (i := 232) (by decide +kernel)) rfl)
theorem lkX6_60 : Cond.fieldLink RX6 60 (gT 6 2).1 (gT 6 2).2.1 (gT 6 2).2.2.1 ∈ TBL := (TBL_of (List.mem_of_getElem? (i := 235) (by decide +kernel)) rfl)
theorem lkX6_63 : Cond.fieldLink RX6 63 (gT 6 3).1 (gT 6 3).2.1 (gT 6 3).2.2.1 ∈ TBL := (TBL_of (List.mem_of_getElem? (i := 238) (by decide +kernel)) rfl)
theorem lkX6_66 : Cond.fieldLink RX6 66 (gT 6 4).1 (gT 6 4).2.1 (gT 6 4).2.2.1 ∈ TBL := (TBL_of (List.mem_of_getElem? (i := 241) (by decide +kernel)) rfl)
theorem lkX6_52 : Cond.fieldLink RX6 52 (gT 6 5).1 (gT 6 5).2.1 (gT 6 5).2.2.1 ∈ TBL := (TBL_of (List.mem_of_getElem? (i := 242) (by decide +kernel)) rfl)
theorem lkX6_17 : Cond.fieldLink RX6 17 (gT 6 6).1 (gT 6 6).2.1 (gT 6 6).2.2.1 ∈ TBL := (TBL_of (List.mem_of_getElem? (i := 244) (by decide +kernel)) rfl)
theorem lkX6_21 : Cond.fieldLink RX6 21 (gT 6 7).1 (gT 6 7).2.1 (gT 6 7).2.2.1 ∈ TBL := (TBL_of (List.mem_of_getElem? (i := 246) (by decide +kernel)) rfl)
theorem lkX6_25 : Cond.fieldLink RX6 25 (gT 6 8).1 (gT 6 8).2.1 (gT 6 8).2.2.1 ∈ TBL := (TBL_of (List.mem_of_getElem? (i := 248) (by decide +kernel)) rfl)
theorem lkX6_28 : Cond.fieldLink RX6 28 (gT 6 9).1 (gT 6 9).2.1 (gT 6 9).2.2.1 ∈ TBL := (TBL_of (List.mem_of_getElem? (i := 251) (by decide +kernel)) rfl)
theorem lkX6_37 : Cond.fieldLink RX6 37 (gT 6 10).1 (gT 6 10).2.1 (gT 6 10).2.2.1 ∈ TBL := (TBL_of (List.mem_of_getElem? (i := 253) (by decide +kernel)) rfl)
theorem lkX6_41 : Cond.fieldLink RX6 41 (gT 6 11).1 (gT 6 11).2.1 (gT 6 11).2.2.1 ∈ TBL := (TBL_of (List.mem_of_getElem? (i := 255) (by decide +kernel)) rfl)
theorem lkX6_44 : Cond.fieldLink RX6 44 (gT 6 12).1 (gT 6 12).2.1 (gT 6 12).2.2.1 ∈ TBL := (TBL_of (List.mem_of_getElem? (i := 257) (by decide +kernel)) rfl)
theorem lkX6_49 : Cond.fieldLink RX6 49 (gT 6 13).1 (gT 6 13).2.1 (gT 6 13).2.2.1 ∈ TBL := (TBL_of (List.mem_of_getElem? (i := 259) (by decide +kernel)) rfl)
theorem clX7_40 : Cond.classLink RX7 40 "DrunkByYear$Search" ∈ TBL := (TBL_of (List.mem_of_getElem? (i := 289) (by decide +kernel)) rfl)
theorem insX4 : Cond.instantiable RX4 15 ∈ TBL := (TBL_of (List.mem_of_getElem? (i := 290) (by decide +kernel)) rfl)
theorem mlX7_42 : Cond.methodLink RX7 42 yX4_init ∈ TBL := (TBL_of (List.mem_of_getElem? (i := 291) (by decide +kernel)) rfl)
theorem mlX4_3 : Cond.methodLink RX4 3 Lib.objectInit ∈ TBL := (TBL_of (List.mem_of_getElem? (i := 294) (by decide +kernel)) rfl)
theorem clX4_11 : Cond.classLink RX4 11 "[[I" ∈ TBL := (TBL_of (List.mem_of_getElem? (i := 295) (by decide +kernel)) rfl)
theorem lkX4_44 : Cond.fieldLink RX4 44 (gT 4 0).1 (gT 4 0).2.1 (gT 4 0).2.2.1 ∈ TBL := (TBL_of (List.mem_of_getElem? (i := 297) (by decide +kernel)) rfl)
theorem lkX4_13 : Cond.fieldLink RX4 13 (gT 4 1).1 (gT 4 1).2.1 (gT 4 1).2.2.1 ∈ TBL := (TBL_of (List.mem_of_getElem? (i := 298) (by decide +kernel)) rfl)
theorem lkX4_16 : Cond.fieldLink RX4 16 (gT 4 2).1 (gT 4 2).2.1 (gT 4 2).2.2.1 ∈ TBL := (TBL_of (List.mem_of_getElem? (i := 299) (by decide +kernel)) rfl)
theorem lkX4_19 : Cond.fieldLink RX4 19 (gT 4 3).1 (gT 4 3).2.1 (gT 4 3).2.2.1 ∈ TBL := (TBL_of (List.mem_of_getElem? (i := 300) (by decide +kernel)) rfl)
theorem lkX4_23 : Cond.fieldLink RX4 23 (gT 4 4).1 (gT 4 4).2.1 (gT 4 4).2.2.1 ∈ TBL := (TBL_of (List.mem_of_getElem? (i := 301) (by decide +kernel)) rfl)
theorem lkX4_26 : Cond.fieldLink RX4 26 (gT 4 5).1 (gT 4 5).2.1 (gT 4 5).2.2.1 ∈ TBL := (TBL_of (List.mem_of_getElem? (i := 302) (by decide +kernel)) rfl)
theorem lkX4_29 : Cond.fieldLink RX4 29 (gT 4 6).1 (gT 4 6).2.1 (gT 4 6).2.2.1 ∈ TBL := (TBL_of (List.mem_of_getElem? (i := 303) (by decide +kernel)) rfl)
theorem lkX4_32 : Cond.fieldLink RX4 32 (gT 4 7).1 (gT 4 7).2.1 (gT 4 7).2.2.1 ∈ TBL := (TBL_of (List.mem_of_getElem? (i := 304) (by decide +kernel)) rfl)
theorem lkX4_35 : Cond.fieldLink RX4 35 (gT 4 8).1 (gT 4 8).2.1 (gT 4 8).2.2.1 ∈ TBL := (TBL_of (List.mem_of_getElem? (i := 305) (by decide +kernel)) rfl)
theorem lkX4_38 : Cond.fieldLink RX4 38 (gT 4 9).1 (gT 4 9).2.1 (gT 4 9).2.2.1 ∈ TBL := (TBL_of (List.mem_of_getElem? (i := 306) (by decide +kernel)) rfl)
theorem lkX4_41 : Cond.fieldLink RX4 41 (gT 4 10).1 (gT 4 10).2.1 (gT 4 10).2.2.1 ∈ TBL := (TBL_of (List.mem_of_getElem? (i := 307) (by decide +kernel)) rfl)
theorem lkX4_79 : Cond.fieldLink RX4 79 (gT 4 11).1 (gT 4 11).2.1 (gT 4 11).2.2.1 ∈ TBL := (TBL_of (List.mem_of_getElem? (i := 308) (by decide +kernel)) rfl)
theorem lkX4_82 : Cond.fieldLink RX4 82 (gT 4 12).1 (gT 4 12).2.1 (gT 4 12).2.2.1 ∈ TBL := (TBL_of (List.mem_of_getElem? (i := 309) (by decide +kernel)) rfl)
theorem lkX4_85 : Cond.fieldLink RX4 85 (gT 4 13).1 (gT 4 13).2.1 (gT 4 13).2.2.1 ∈ TBL := (TBL_of (List.mem_of_getElem? (i := 310) (by decide +kernel)) rfl)
theorem lkX4_71 : Cond.fieldLink RX4 71 (gT 4 14).1 (gT 4 14).2.1 (gT 4 14).2.2.1 ∈ TBL := (TBL_of (List.mem_of_getElem? (i := 311) (by decide +kernel)) rfl)
theorem lkX7_13 : Cond.fieldLink RX7 13 (gT 7 0).1 (gT 7 0).2.1 (gT 7 0).2.2.1 ∈ TBL := (TBL_of (List.mem_of_getElem? (i := 343) (by decide +kernel)) rfl)
theorem lkX7_30 : Cond.fieldLink RX7 30 (gT 7 1).1 (gT 7 1).2.1 (gT 7 1).2.2.1 ∈ TBL := (TBL_of (List.mem_of_getElem? (i := 344) (by decide +kernel)) rfl)
theorem lkX7_34 : Cond.fieldLink RX7 34 (gT 7 2).1 (gT 7 2).2.1 (gT 7 2).2.2.1 ∈ TBL := (TBL_of (List.mem_of_getElem? (i := 345) (by decide +kernel)) rfl)
theorem lkX7_37 : Cond.fieldLink RX7 37 (gT 7 3).1 (gT 7 3).2.1 (gT 7 3).2.2.1 ∈ TBL := (TBL_of (List.mem_of_getElem? (i := 346) (by decide +kernel)) rfl)
theorem lkX7_45 : Cond.fieldLink RX7 45 (gT 7 4).1 (gT 7 4).2.1 (gT 7 4).2.2.1 ∈ TBL := (TBL_of (List.mem_of_getElem? (i := 347) (by decide +kernel)) rfl)
theorem lkX7_20 : Cond.fieldLink RX7 20 (gT 7 5).1 (gT 7 5).2.1 (gT 7 5).2.2.1 ∈ TBL := (TBL_of (List.mem_of_getElem? (i := 348) (by decide +kernel)) rfl)
theorem lkX7_263 : Cond.fieldLink RX7 263 (gT 7 6).1 (gT 7 6).2.1 (gT 7 6).2.2.1 ∈ TBL := (TBL_of (List.mem_of_getElem? (i := 349) (by decide +kernel)) rfl)
theorem mlL_13 : Cond.methodLink RL 13 yX7_feed ∈ TBL := (TBL_of (List.mem_of_getElem? (i := 365) (by decide +kernel)) rfl)
theorem mlL_18 : Cond.methodLink RL 18 yX7_village ∈ TBL := (TBL_of (List.mem_of_getElem? (i := 369) (by decide +kernel)) rfl)
theorem clX7_59 : Cond.classLink RX7 59 "DrunkByYear$Reader" ∈ TBL := (TBL_of (List.mem_of_getElem? (i := 373) (by decide +kernel)) rfl)
theorem insX2 : Cond.instantiable RX2 4 ∈ TBL := (TBL_of (List.mem_of_getElem? (i := 374) (by decide +kernel)) rfl)
theorem mlX7_61 : Cond.methodLink RX7 61 yX2_init ∈ TBL := (TBL_of (List.mem_of_getElem? (i := 375) (by decide +kernel)) rfl)
theorem mlX2_3 : Cond.methodLink RX2 3 Lib.objectInit ∈ TBL := (TBL_of (List.mem_of_getElem? (i := 378) (by decide +kernel)) rfl)
theorem lkX2_9 : Cond.fieldLink RX2 9 (gT 2 0).1 (gT 2 0).2.1 (gT 2 0).2.2.1 ∈ TBL := (TBL_of (List.mem_of_getElem? (i := 379) (by decide +kernel)) rfl)
theorem lkX2_15 : Cond.fieldLink RX2 15 (gT 2 1).1 (gT 2 1).2.1 (gT 2 1).2.2.1 ∈ TBL := (TBL_of (List.mem_of_getElem? (i := 380) (by decide +kernel)) rfl)
theorem lkX2_19 : Cond.fieldLink RX2 19 (gT 2 2).1 (gT 2 2).2.1 (gT 2 2).2.2.1 ∈ TBL := (TBL_of (List.mem_of_getElem? (i := 381) (by decide +kernel)) rfl)
theorem lkX2_32 : Cond.fieldLink RX2 32 (gT 2 3).1 (gT 2 3).2.1 (gT 2 3).2.2.1 ∈ TBL := (TBL_of (List.mem_of_getElem? (i := 382) (by decide +kernel)) rfl)
theorem mlX7_64 : Cond.methodLink RX7 64 yX2_readVillage ∈ TBL := (TBL_of (List.mem_of_getElem? (i := 393) (by decide +kernel)) rfl)
theorem mlX2_23 : Cond.methodLink RX2 23 yX5_forget ∈ TBL := (TBL_of (List.mem_of_getElem? (i := 397) (by decide +kernel)) rfl)
theorem mlX2_28 : Cond.methodLink RX2 28 yX2_readClause ∈ TBL := (TBL_of (List.mem_of_getElem? (i := 398) (by decide +kernel)) rfl)
theorem mlX2_35 : Cond.methodLink RX2 35 yX2_takes ∈ TBL := (TBL_of (List.mem_of_getElem? (i := 402) (by decide +kernel)) rfl)
theorem mlX2_41 : Cond.methodLink RX2 41 yX2_takesAll ∈ TBL := (TBL_of (List.mem_of_getElem? (i := 407) (by decide +kernel)) rfl)
theorem mlX2_96 : Cond.methodLink RX2 96 yJ0_length_8abf5 ∈ TBL := (TBL_of (List.mem_of_getElem? (i := 411) (by decide +kernel)) rfl)
theorem mlJ0_335 : Cond.methodLink RJ0 335 yJ0_coder_7d493 ∈ TBL := (TBL_of (List.mem_of_getElem? (i := 415) (by decide +kernel)) rfl)
theorem lsJ0_38 : Cond.fieldLink RJ0 38 "java/lang/String" "COMPACT_STRINGS" "Z" ∈ TBL := (TBL_of (List.mem_of_getElem? (i := 419) (by decide +kernel)) rfl)
theorem mlX2_99 : Cond.methodLink RX2 99 yJ0_charAt_5068e ∈ TBL := (TBL_of (List.mem_of_getElem? (i := 421) (by decide +kernel)) rfl)
theorem mlJ0_492 : Cond.methodLink RJ0 492 yJ0_isLatin1_aae02 ∈ TBL := (TBL_of (List.mem_of_getElem? (i := 425) (by decide +kernel)) rfl)
theorem mlJ0_495 : Cond.methodLink RJ0 495 yJ1_charAt_3b067 ∈ TBL := (TBL_of (List.mem_of_getElem? (i := 429) (by decide +kernel)) rfl)
theorem mlJ1_9 : Cond.methodLink RJ1 9 yJ0_checkIndex_df160 ∈ TBL := (TBL_of (List.mem_of_getElem? (i := 432) (by decide +kernel)) rfl)
theorem lsJ0_1053 : Cond.fieldLink RJ0 1053 "jdk/internal/util/Preconditions" "SIOOBE_FORMATTER" "Ljava/util/function/BiFunction;" ∈ TBL := (TBL_of (List.mem_of_getElem? (i := 435) (by decide +kernel)) rfl)
theorem mlJ0_1059 : Cond.methodLink RJ0 1059 yJ3_checkIndex_8e157 ∈ TBL := (TBL_of (List.mem_of_getElem? (i := 437) (by decide +kernel)) rfl)
theorem mlJ0_498 : Cond.methodLink RJ0 498 yJ2_charAt_3b067 ∈ TBL := (TBL_of (List.mem_of_getElem? (i := 440) (by decide +kernel)) rfl)
theorem mlJ2_67 : Cond.methodLink RJ2 67 yJ2_checkIndex_2214a ∈ TBL := (TBL_of (List.mem_of_getElem? (i := 443) (by decide +kernel)) rfl)
theorem mlJ2_48 : Cond.methodLink RJ2 48 yJ2_length_9d52b ∈ TBL := (TBL_of (List.mem_of_getElem? (i := 446) (by decide +kernel)) rfl)
theorem mlJ2_414 : Cond.methodLink RJ2 414 yJ0_checkIndex_df160 ∈ TBL := (TBL_of (List.mem_of_getElem? (i := 449) (by decide +kernel)) rfl)
theorem mlJ2_71 : Cond.methodLink RJ2 71 yJ2_getChar_3b067 ∈ TBL := (TBL_of (List.mem_of_getElem? (i := 450) (by decide +kernel)) rfl)
theorem lsJ2_44 : Cond.fieldLink RJ2 44 "java/lang/StringUTF16" "$assertionsDisabled" "Z" ∈ TBL := (TBL_of (List.mem_of_getElem? (i := 453) (by decide +kernel)) rfl)
theorem lsJ2_59 : Cond.fieldLink RJ2 59 "java/lang/StringUTF16" "HI_BYTE_SHIFT" "I" ∈ TBL := (TBL_of (List.mem_of_getElem? (i := 455) (by decide +kernel)) rfl)
theorem lsJ2_63 : Cond.fieldLink RJ2 63 "java/lang/StringUTF16" "LO_BYTE_SHIFT" "I" ∈ TBL := (TBL_of (List.mem_of_getElem? (i := 457) (by decide +kernel)) rfl)
theorem mlX2_45 : Cond.methodLink RX2 45 yX2_readNumber ∈ TBL := (TBL_of (List.mem_of_getElem? (i := 459) (by decide +kernel)) rfl)
theorem mlX2_61 : Cond.methodLink RX2 61 yX2_readEither ∈ TBL := (TBL_of (List.mem_of_getElem? (i := 466) (by decide +kernel)) rfl)
theorem mlX2_69 : Cond.methodLink RX2 69 yX2_readFactor ∈ TBL := (TBL_of (List.mem_of_getElem? (i := 470) (by decide +kernel)) rfl)
theorem mlX2_72 : Cond.methodLink RX2 72 yX5_addStep ∈ TBL := (TBL_of (List.mem_of_getElem? (i := 474) (by decide +kernel)) rfl)
theorem mlX2_75 : Cond.methodLink RX2 75 yX2_readTest ∈ TBL := (TBL_of (List.mem_of_getElem? (i := 478) (by decide +kernel)) rfl)
theorem mlX2_80 : Cond.methodLink RX2 80 yX2_readOneOf ∈ TBL := (TBL_of (List.mem_of_getElem? (i := 483) (by decide +kernel)) rfl)
theorem mlX2_90 : Cond.methodLink RX2 90 yJ0_indexOf_0f7a4 ∈ TBL := (TBL_of (List.mem_of_getElem? (i := 487) (by decide +kernel)) rfl)
theorem mlJ0_633 : Cond.methodLink RJ0 633 yJ0_indexOf_7cf53 ∈ TBL := (TBL_of (List.mem_of_getElem? (i := 491) (by decide +kernel)) rfl)
theorem mlJ0_505 : Cond.methodLink RJ0 505 yJ0_length_8abf5 ∈ TBL := (TBL_of (List.mem_of_getElem? (i := 495) (by decide +kernel)) rfl)
theorem mlJ0_637 : Cond.methodLink RJ0 637 yJ1_indexOf_4cfef ∈ TBL := (TBL_of (List.mem_of_getElem? (i := 496) (by decide +kernel)) rfl)
theorem mlJ1_88 : Cond.methodLink RJ1 88 yJ1_canEncode_9a6ad ∈ TBL := (TBL_of (List.mem_of_getElem? (i := 499) (by decide +kernel)) rfl)
theorem mlJ1_92 : Cond.methodLink RJ1 92 yJ9_max_7cf53 ∈ TBL := (TBL_of (List.mem_of_getElem? (i := 502) (by decide +kernel)) rfl)
theorem mlJ1_38 : Cond.methodLink RJ1 38 yJ9_min_7cf53 ∈ TBL := (TBL_of (List.mem_of_getElem? (i := 505) (by decide +kernel)) rfl)
theorem mlJ1_95 : Cond.methodLink RJ1 95 yJ1_indexOfChar_4cfef ∈ TBL := (TBL_of (List.mem_of_getElem? (i := 508) (by decide +kernel)) rfl)
theorem mlJ0_640 : Cond.methodLink RJ0 640 yJ2_indexOf_4cfef ∈ TBL := (TBL_of (List.mem_of_getElem? (i := 511) (by decide +kernel)) rfl)
theorem mlJ2_224 : Cond.methodLink RJ2 224 yJ9_max_7cf53 ∈ TBL := (TBL_of (List.mem_of_getElem? (i := 514) (by decide +kernel)) rfl)
theorem mlJ2_183 : Cond.methodLink RJ2 183 yJ9_min_7cf53 ∈ TBL := (TBL_of (List.mem_of_getElem? (i := 515) (by decide +kernel)) rfl)
theorem kJ2_227 : Cond.constant RJ2 227 (65536) ∈ TBL := (TBL_of (List.mem_of_getElem? (i := 516) (by decide +kernel)) rfl)
theorem mlJ2_228 : Cond.methodLink RJ2 228 yJ2_indexOfChar_4cfef ∈ TBL := (TBL_of (List.mem_of_getElem? (i := 517) (by decide +kernel)) rfl)
theorem mlJ2_96 : Cond.methodLink RJ2 96 yJ2_checkBoundsBeginEnd_d044e ∈ TBL := (TBL_of (List.mem_of_getElem? (i := 520) (by decide +kernel)) rfl)
theorem mlJ2_241 : Cond.methodLink RJ2 241 yJ0_checkBoundsBeginEnd_23922 ∈ TBL := (TBL_of (List.mem_of_getElem? (i := 523) (by decide +kernel)) rfl)
theorem mlJ0_1062 : Cond.methodLink RJ0 1062 yJ3_checkFromToIndex_8c36e ∈ TBL := (TBL_of (List.mem_of_getElem? (i := 526) (by decide +kernel)) rfl)
theorem mlJ2_244 : Cond.methodLink RJ2 244 yJ2_indexOfCharUnsafe_4cfef ∈ TBL := (TBL_of (List.mem_of_getElem? (i := 529) (by decide +kernel)) rfl)
theorem mlJ2_232 : Cond.methodLink RJ2 232 yJ2_indexOfSupplementary_4cfef ∈ TBL := (TBL_of (List.mem_of_getElem? (i := 532) (by decide +kernel)) rfl)
theorem mlJ2_164 : Cond.methodLink RJ2 164 yJ11_isValidCodePoint_9a6ad ∈ TBL := (TBL_of (List.mem_of_getElem? (i := 535) (by decide +kernel)) rfl)
theorem mlJ2_157 : Cond.methodLink RJ2 157 yJ11_highSurrogate_5068e ∈ TBL := (TBL_of (List.mem_of_getElem? (i := 538) (by decide +kernel)) rfl)
theorem kJ11_110 : Cond.constant RJ11 110 (55232) ∈ TBL := (TBL_of (List.mem_of_getElem? (i := 541) (by decide +kernel)) rfl)
theorem mlJ2_161 : Cond.methodLink RJ2 161 yJ11_lowSurrogate_5068e ∈ TBL := (TBL_of (List.mem_of_getElem? (i := 542) (by decide +kernel)) rfl)
theorem kJ11_76 : Cond.constant RJ11 76 (56320) ∈ TBL := (TBL_of (List.mem_of_getElem? (i := 545) (by decide +kernel)) rfl)
theorem mlX2_86 : Cond.methodLink RX2 86 yX5_testStep ∈ TBL := (TBL_of (List.mem_of_getElem? (i := 547) (by decide +kernel)) rfl)
theorem mlX2_65 : Cond.methodLink RX2 65 yX5_endClause ∈ TBL := (TBL_of (List.mem_of_getElem? (i := 550) (by decide +kernel)) rfl)
theorem ac_byte : Cond.arrayClass .byte ∈ TBL := (TBL_of (List.mem_of_getElem? (i := 554) (by decide +kernel)) rfl)
theorem mlL_23 : Cond.methodLink RL 23 yX7_person ∈ TBL := (TBL_of (List.mem_of_getElem? (i := 555) (by decide +kernel)) rfl)
theorem mlX7_75 : Cond.methodLink RX7 75 yX7_isKind ∈ TBL := (TBL_of (List.mem_of_getElem? (i := 559) (by decide +kernel)) rfl)
theorem lsX7_260 : Cond.fieldLink RX7 260 "DrunkByYear" "ABOVE" "[I" ∈ TBL := (TBL_of (List.mem_of_getElem? (i := 562) (by decide +kernel)) rfl)
theorem mlX7_79 : Cond.methodLink RX7 79 yX7_isDigit ∈ TBL := (TBL_of (List.mem_of_getElem? (i := 564) (by decide +kernel)) rfl)
theorem mlX7_89 : Cond.methodLink RX7 89 yX1_comeToLife ∈ TBL := (TBL_of (List.mem_of_getElem? (i := 567) (by decide +kernel)) rfl)
theorem mlL_28 : Cond.methodLink RL 28 yX7_vintage ∈ TBL := (TBL_of (List.mem_of_getElem? (i := 571) (by decide +kernel)) rfl)
theorem mlX7_95 : Cond.methodLink RX7 95 yX7_isBottles ∈ TBL := (TBL_of (List.mem_of_getElem? (i := 575) (by decide +kernel)) rfl)
theorem mlX7_101 : Cond.methodLink RX7 101 yX6_addVintage ∈ TBL := (TBL_of (List.mem_of_getElem? (i := 578) (by decide +kernel)) rfl)
theorem mlL_33 : Cond.methodLink RL 33 yX7_of ∈ TBL := (TBL_of (List.mem_of_getElem? (i := 582) (by decide +kernel)) rfl)
theorem mlX7_105 : Cond.methodLink RX7 105 yX7_isOne ∈ TBL := (TBL_of (List.mem_of_getElem? (i := 586) (by decide +kernel)) rfl)
theorem mlX7_123 : Cond.methodLink RX7 123 yX7_shown ∈ TBL := (TBL_of (List.mem_of_getElem? (i := 590) (by decide +kernel)) rfl)
theorem mlX7_127 : Cond.methodLink RX7 127 yX6_ageBy ∈ TBL := (TBL_of (List.mem_of_getElem? (i := 593) (by decide +kernel)) rfl)
theorem mlX6_82 : Cond.methodLink RX6 82 yX1_ageIn ∈ TBL := (TBL_of (List.mem_of_getElem? (i := 597) (by decide +kernel)) rfl)
theorem mlX1_44 : Cond.methodLink RX1 44 yX1_ageHad ∈ TBL := (TBL_of (List.mem_of_getElem? (i := 601) (by decide +kernel)) rfl)
theorem mlX1_48 : Cond.methodLink RX1 48 yJ9_min_7cf53 ∈ TBL := (TBL_of (List.mem_of_getElem? (i := 605) (by decide +kernel)) rfl)
theorem mlX7_130 : Cond.methodLink RX7 130 yX6_stageBy ∈ TBL := (TBL_of (List.mem_of_getElem? (i := 606) (by decide +kernel)) rfl)
theorem mlX6_86 : Cond.methodLink RX6 86 yX6_ageBy ∈ TBL := (TBL_of (List.mem_of_getElem? (i := 610) (by decide +kernel)) rfl)
theorem mlX6_89 : Cond.methodLink RX6 89 yX6_stageAt ∈ TBL := (TBL_of (List.mem_of_getElem? (i := 611) (by decide +kernel)) rfl)
theorem mlX6_92 : Cond.methodLink RX6 92 yX1_isHereAt ∈ TBL := (TBL_of (List.mem_of_getElem? (i := 615) (by decide +kernel)) rfl)
theorem mlX7_133 : Cond.methodLink RX7 133 yX6_nerveBy ∈ TBL := (TBL_of (List.mem_of_getElem? (i := 619) (by decide +kernel)) rfl)
theorem mlX6_108 : Cond.methodLink RX6 108 yX5_nerveFor ∈ TBL := (TBL_of (List.mem_of_getElem? (i := 623) (by decide +kernel)) rfl)
theorem mlX5_37 : Cond.methodLink RX5 37 yX5_holdsFor ∈ TBL := (TBL_of (List.mem_of_getElem? (i := 627) (by decide +kernel)) rfl)
theorem mlX5_47 : Cond.methodLink RX5 47 yX5_passes ∈ TBL := (TBL_of (List.mem_of_getElem? (i := 631) (by decide +kernel)) rfl)
theorem mlX5_41 : Cond.methodLink RX5 41 yJ9_max_7cf53 ∈ TBL := (TBL_of (List.mem_of_getElem? (i := 634) (by decide +kernel)) rfl)
theorem mlL_37 : Cond.methodLink RL 37 yX7_row ∈ TBL := (TBL_of (List.mem_of_getElem? (i := 635) (by decide +kernel)) rfl)
theorem mlL_42 : Cond.methodLink RL 42 yX7_wine ∈ TBL := (TBL_of (List.mem_of_getElem? (i := 639) (by decide +kernel)) rfl)
theorem mlX7_140 : Cond.methodLink RX7 140 yX7_isVintage ∈ TBL := (TBL_of (List.mem_of_getElem? (i := 643) (by decide +kernel)) rfl)
theorem mlL_46 : Cond.methodLink RL 46 yX7_stock ∈ TBL := (TBL_of (List.mem_of_getElem? (i := 647) (by decide +kernel)) rfl)
theorem mlL_50 : Cond.methodLink RL 50 yX7_told ∈ TBL := (TBL_of (List.mem_of_getElem? (i := 651) (by decide +kernel)) rfl)
theorem mlX7_158 : Cond.methodLink RX7 158 yX6_whoIsHere ∈ TBL := (TBL_of (List.mem_of_getElem? (i := 655) (by decide +kernel)) rfl)
theorem mlX6_115 : Cond.methodLink RX6 115 yX6_stageBy ∈ TBL := (TBL_of (List.mem_of_getElem? (i := 659) (by decide +kernel)) rfl)
theorem mlX7_162 : Cond.methodLink RX7 162 yX6_nerveOfAll ∈ TBL := (TBL_of (List.mem_of_getElem? (i := 660) (by decide +kernel)) rfl)
theorem mlX6_118 : Cond.methodLink RX6 118 yX6_nerveBy ∈ TBL := (TBL_of (List.mem_of_getElem? (i := 664) (by decide +kernel)) rfl)
theorem mlX7_165 : Cond.methodLink RX7 165 yX6_bottlesInAll ∈ TBL := (TBL_of (List.mem_of_getElem? (i := 665) (by decide +kernel)) rfl)
theorem mlL_54 : Cond.methodLink RL 54 yX7_pour ∈ TBL := (TBL_of (List.mem_of_getElem? (i := 669) (by decide +kernel)) rfl)
theorem mlX7_168 : Cond.methodLink RX7 168 yX6_pourOut ∈ TBL := (TBL_of (List.mem_of_getElem? (i := 673) (by decide +kernel)) rfl)
theorem mlL_58 : Cond.methodLink RL 58 yX7_dry ∈ TBL := (TBL_of (List.mem_of_getElem? (i := 677) (by decide +kernel)) rfl)
theorem mlL_62 : Cond.methodLink RL 62 yX7_dawn ∈ TBL := (TBL_of (List.mem_of_getElem? (i := 681) (by decide +kernel)) rfl)
theorem mlX7_172 : Cond.methodLink RX7 172 yX6_growLight ∈ TBL := (TBL_of (List.mem_of_getElem? (i := 685) (by decide +kernel)) rfl)
theorem mlL_66 : Cond.methodLink RL 66 yX7_blend ∈ TBL := (TBL_of (List.mem_of_getElem? (i := 689) (by decide +kernel)) rfl)
theorem mlL_70 : Cond.methodLink RL 70 yX7_alive ∈ TBL := (TBL_of (List.mem_of_getElem? (i := 693) (by decide +kernel)) rfl)
theorem mlX7_176 : Cond.methodLink RX7 176 yX1_ageIn ∈ TBL := (TBL_of (List.mem_of_getElem? (i := 697) (by decide +kernel)) rfl)
theorem mlX7_179 : Cond.methodLink RX7 179 yX1_isHereAt ∈ TBL := (TBL_of (List.mem_of_getElem? (i := 698) (by decide +kernel)) rfl)
theorem mlL_74 : Cond.methodLink RL 74 yX7_brings ∈ TBL := (TBL_of (List.mem_of_getElem? (i := 699) (by decide +kernel)) rfl)
theorem mlL_78 : Cond.methodLink RL 78 yX7_nearest ∈ TBL := (TBL_of (List.mem_of_getElem? (i := 703) (by decide +kernel)) rfl)
theorem kX7_182 : Cond.constant RX7 182 (1000000) ∈ TBL := (TBL_of (List.mem_of_getElem? (i := 707) (by decide +kernel)) rfl)
theorem mlX7_183 : Cond.methodLink RX7 183 yJ9_abs_0f7a4 ∈ TBL := (TBL_of (List.mem_of_getElem? (i := 708) (by decide +kernel)) rfl)
theorem mlL_82 : Cond.methodLink RL 82 yX7_two ∈ TBL := (TBL_of (List.mem_of_getElem? (i := 711) (by decide +kernel)) rfl)
theorem mlL_86 : Cond.methodLink RL 86 yX7_meet ∈ TBL := (TBL_of (List.mem_of_getElem? (i := 715) (by decide +kernel)) rfl)
theorem mlX7_188 : Cond.methodLink RX7 188 yX7_isCountOrFirst ∈ TBL := (TBL_of (List.mem_of_getElem? (i := 719) (by decide +kernel)) rfl)
theorem mlL_90 : Cond.methodLink RL 90 yX7_fewest ∈ TBL := (TBL_of (List.mem_of_getElem? (i := 722) (by decide +kernel)) rfl)
theorem mlX7_191 : Cond.methodLink RX7 191 yX7_isOfSeating ∈ TBL := (TBL_of (List.mem_of_getElem? (i := 726) (by decide +kernel)) rfl)
theorem mlX7_194 : Cond.methodLink RX7 194 yX4_answer ∈ TBL := (TBL_of (List.mem_of_getElem? (i := 730) (by decide +kernel)) rfl)
theorem mlX4_48 : Cond.methodLink RX4 48 yX4_begin ∈ TBL := (TBL_of (List.mem_of_getElem? (i := 734) (by decide +kernel)) rfl)
theorem kX4_65 : Cond.constant RX4 65 (1000000) ∈ TBL := (TBL_of (List.mem_of_getElem? (i := 738) (by decide +kernel)) rfl)
theorem kX4_66 : Cond.constant RX4 66 (-1000000) ∈ TBL := (TBL_of (List.mem_of_getElem? (i := 739) (by decide +kernel)) rfl)
theorem mlX4_58 : Cond.methodLink RX4 58 yX4_layChoices ∈ TBL := (TBL_of (List.mem_of_getElem? (i := 740) (by decide +kernel)) rfl)
theorem mlX4_97 : Cond.methodLink RX4 97 yX6_ageBy ∈ TBL := (TBL_of (List.mem_of_getElem? (i := 744) (by decide +kernel)) rfl)
theorem mlX4_101 : Cond.methodLink RX4 101 yX6_nerveBy ∈ TBL := (TBL_of (List.mem_of_getElem? (i := 745) (by decide +kernel)) rfl)
theorem mlX4_104 : Cond.methodLink RX4 104 yX6_stageBy ∈ TBL := (TBL_of (List.mem_of_getElem? (i := 746) (by decide +kernel)) rfl)
theorem mlX4_107 : Cond.methodLink RX4 107 yX4_isWasted ∈ TBL := (TBL_of (List.mem_of_getElem? (i := 747) (by decide +kernel)) rfl)
theorem mlX4_62 : Cond.methodLink RX4 62 yX4_lookAhead ∈ TBL := (TBL_of (List.mem_of_getElem? (i := 751) (by decide +kernel)) rfl)
theorem mlX4_111 : Cond.methodLink RX4 111 yJ9_max_7cf53 ∈ TBL := (TBL_of (List.mem_of_getElem? (i := 755) (by decide +kernel)) rfl)
theorem mlX4_116 : Cond.methodLink RX4 116 yJ9_min_7cf53 ∈ TBL := (TBL_of (List.mem_of_getElem? (i := 756) (by decide +kernel)) rfl)
theorem mlX4_67 : Cond.methodLink RX4 67 yX4_sit ∈ TBL := (TBL_of (List.mem_of_getElem? (i := 757) (by decide +kernel)) rfl)
theorem mlX4_119 : Cond.methodLink RX4 119 yX4_leastCost ∈ TBL := (TBL_of (List.mem_of_getElem? (i := 761) (by decide +kernel)) rfl)
theorem mlX4_123 : Cond.methodLink RX4 123 yX4_isBetter ∈ TBL := (TBL_of (List.mem_of_getElem? (i := 765) (by decide +kernel)) rfl)
theorem mlX4_126 : Cond.methodLink RX4 126 yX4_keep ∈ TBL := (TBL_of (List.mem_of_getElem? (i := 769) (by decide +kernel)) rfl)
theorem mlX4_130 : Cond.methodLink RX4 130 arraycopyName ∈ TBL := (TBL_of (List.mem_of_getElem? (i := 773) (by decide +kernel)) rfl)
theorem mlX4_75 : Cond.methodLink RX4 75 yX4_result ∈ TBL := (TBL_of (List.mem_of_getElem? (i := 776) (by decide +kernel)) rfl)
theorem mlL_94 : Cond.methodLink RL 94 yX7_close ∈ TBL := (TBL_of (List.mem_of_getElem? (i := 781) (by decide +kernel)) rfl)
theorem mlL_98 : Cond.methodLink RL 98 yX7_boldest ∈ TBL := (TBL_of (List.mem_of_getElem? (i := 785) (by decide +kernel)) rfl)
theorem mlL_102 : Cond.methodLink RL 102 yX7_see ∈ TBL := (TBL_of (List.mem_of_getElem? (i := 789) (by decide +kernel)) rfl)
theorem mlX7_202 : Cond.methodLink RX7 202 yX7_tellAge ∈ TBL := (TBL_of (List.mem_of_getElem? (i := 793) (by decide +kernel)) rfl)
theorem mlX7_219 : Cond.methodLink RX7 219 yX3_empty ∈ TBL := (TBL_of (List.mem_of_getElem? (i := 797) (by decide +kernel)) rfl)
theorem mlX7_224 : Cond.methodLink RX7 224 yX3_add ∈ TBL := (TBL_of (List.mem_of_getElem? (i := 801) (by decide +kernel)) rfl)
theorem mlL_106 : Cond.methodLink RL 106 yX7_drank ∈ TBL := (TBL_of (List.mem_of_getElem? (i := 805) (by decide +kernel)) rfl)
theorem mlX7_206 : Cond.methodLink RX7 206 yX6_isAsSeen ∈ TBL := (TBL_of (List.mem_of_getElem? (i := 809) (by decide +kernel)) rfl)
theorem mlX6_140 : Cond.methodLink RX6 140 yX1_ageHad ∈ TBL := (TBL_of (List.mem_of_getElem? (i := 813) (by decide +kernel)) rfl)
theorem mlL_110 : Cond.methodLink RL 110 yX7_birth ∈ TBL := (TBL_of (List.mem_of_getElem? (i := 814) (by decide +kernel)) rfl)
theorem mlL_114 : Cond.methodLink RL 114 yX7_firm ∈ TBL := (TBL_of (List.mem_of_getElem? (i := 818) (by decide +kernel)) rfl)
theorem mlL_118 : Cond.methodLink RL 118 yX7_odds ∈ TBL := (TBL_of (List.mem_of_getElem? (i := 822) (by decide +kernel)) rfl)
theorem kX7_210 : Cond.constantLong RX7 210 (-9223372036854775808) ∈ TBL := (TBL_of (List.mem_of_getElem? (i := 826) (by decide +kernel)) rfl)
theorem mlX7_212 : Cond.methodLink RX7 212 yX7_partOfFraction ∈ TBL := (TBL_of (List.mem_of_getElem? (i := 827) (by decide +kernel)) rfl)
theorem mlL_123 : Cond.methodLink RL 123 yX7_mean ∈ TBL := (TBL_of (List.mem_of_getElem? (i := 830) (by decide +kernel)) rfl)
theorem mlL_128 : Cond.methodLink RL 128 yX7_night ∈ TBL := (TBL_of (List.mem_of_getElem? (i := 834) (by decide +kernel)) rfl)
theorem mlL_132 : Cond.methodLink RL 132 yX7_done ∈ TBL := (TBL_of (List.mem_of_getElem? (i := 838) (by decide +kernel)) rfl)
theorem mlX7_227 : Cond.methodLink RX7 227 yX6_become ∈ TBL := (TBL_of (List.mem_of_getElem? (i := 842) (by decide +kernel)) rfl)
theorem mlX6_69 : Cond.methodLink RX6 69 yX1_become ∈ TBL := (TBL_of (List.mem_of_getElem? (i := 846) (by decide +kernel)) rfl)
theorem mlX1_34 : Cond.methodLink RX1 34 yX1_comeToLife ∈ TBL := (TBL_of (List.mem_of_getElem? (i := 850) (by decide +kernel)) rfl)
theorem mlX1_38 : Cond.methodLink RX1 38 arraycopyName ∈ TBL := (TBL_of (List.mem_of_getElem? (i := 851) (by decide +kernel)) rfl)
theorem mlX6_73 : Cond.methodLink RX6 73 arraycopyName ∈ TBL := (TBL_of (List.mem_of_getElem? (i := 852) (by decide +kernel)) rfl)
theorem mlX6_79 : Cond.methodLink RX6 79 yX3_become ∈ TBL := (TBL_of (List.mem_of_getElem? (i := 853) (by decide +kernel)) rfl)
theorem mlX3_25 : Cond.methodLink RX3 25 yX3_empty ∈ TBL := (TBL_of (List.mem_of_getElem? (i := 857) (by decide +kernel)) rfl)
theorem mlX3_29 : Cond.methodLink RX3 29 yX3_add ∈ TBL := (TBL_of (List.mem_of_getElem? (i := 858) (by decide +kernel)) rfl)
theorem mlX7_230 : Cond.methodLink RX7 230 yX6_liveThroughNight ∈ TBL := (TBL_of (List.mem_of_getElem? (i := 859) (by decide +kernel)) rfl)
theorem mlX6_127 : Cond.methodLink RX6 127 yX6_growLight ∈ TBL := (TBL_of (List.mem_of_getElem? (i := 863) (by decide +kernel)) rfl)
theorem mlX6_136 : Cond.methodLink RX6 136 yX6_pourOut ∈ TBL := (TBL_of (List.mem_of_getElem? (i := 864) (by decide +kernel)) rfl)
theorem mlX7_233 : Cond.methodLink RX7 233 yJ6_bitCount_0f7a4 ∈ TBL := (TBL_of (List.mem_of_getElem? (i := 865) (by decide +kernel)) rfl)
theorem kJ6_265 : Cond.constant RJ6 265 (1431655765) ∈ TBL := (TBL_of (List.mem_of_getElem? (i := 868) (by decide +kernel)) rfl)
theorem kJ6_266 : Cond.constant RJ6 266 (858993459) ∈ TBL := (TBL_of (List.mem_of_getElem? (i := 869) (by decide +kernel)) rfl)
theorem kJ6_267 : Cond.constant RJ6 267 (252645135) ∈ TBL := (TBL_of (List.mem_of_getElem? (i := 870) (by decide +kernel)) rfl)
theorem mlL_136 : Cond.methodLink RL 136 yX7_book ∈ TBL := (TBL_of (List.mem_of_getElem? (i := 871) (by decide +kernel)) rfl)
theorem mlL_140 : Cond.methodLink RL 140 yX7_looked ∈ TBL := (TBL_of (List.mem_of_getElem? (i := 875) (by decide +kernel)) rfl)
theorem mlL_144 : Cond.methodLink RL 144 yX7_act ∈ TBL := (TBL_of (List.mem_of_getElem? (i := 879) (by decide +kernel)) rfl)
theorem lsX0_18 : Cond.fieldLink RX0 18 "DrunkByYear$Acts" "BODY" "[I" ∈ TBL := (TBL_of (List.mem_of_getElem? (i := 888) (by decide +kernel)) rfl)
theorem mlX0_21 : Cond.methodLink RX0 21 yX0_begin ∈ TBL := (TBL_of (List.mem_of_getElem? (i := 890) (by decide +kernel)) rfl)
theorem mlX0_37 : Cond.methodLink RX0 37 yX0_perform ∈ TBL := (TBL_of (List.mem_of_getElem? (i := 894) (by decide +kernel)) rfl)
theorem mlL_148 : Cond.methodLink RL 148 yX7_trace ∈ TBL := (TBL_of (List.mem_of_getElem? (i := 895) (by decide +kernel)) rfl)
theorem mlL_152 : Cond.methodLink RL 152 yX7_as ∈ TBL := (TBL_of (List.mem_of_getElem? (i := 899) (by decide +kernel)) rfl)
theorem mlL_156 : Cond.methodLink RL 156 yX7_image ∈ TBL := (TBL_of (List.mem_of_getElem? (i := 903) (by decide +kernel)) rfl)
theorem mlL_160 : Cond.methodLink RL 160 yX7_undo ∈ TBL := (TBL_of (List.mem_of_getElem? (i := 907) (by decide +kernel)) rfl)
theorem mlL_164 : Cond.methodLink RL 164 yX7_count ∈ TBL := (TBL_of (List.mem_of_getElem? (i := 911) (by decide +kernel)) rfl)
theorem clL_10 : Cond.classLink RL 10 "DrunkByYearModel" ∈ TBL := (TBL_of (List.mem_of_getElem? (i := 915) (by decide +kernel)) rfl)
theorem insX8 : Cond.instantiable RX8 29 ∈ TBL := (TBL_of (List.mem_of_getElem? (i := 916) (by decide +kernel)) rfl)
theorem mlL_12 : Cond.methodLink RL 12 yX8_init ∈ TBL := (TBL_of (List.mem_of_getElem? (i := 917) (by decide +kernel)) rfl)
theorem mlX8_3 : Cond.methodLink RX8 3 Lib.objectInit ∈ TBL := (TBL_of (List.mem_of_getElem? (i := 920) (by decide +kernel)) rfl)
theorem lkX8_9 : Cond.fieldLink RX8 9 (gT 8 1).1 (gT 8 1).2.1 (gT 8 1).2.2.1 ∈ TBL := (TBL_of (List.mem_of_getElem? (i := 921) (by decide +kernel)) rfl)
theorem lkX8_15 : Cond.fieldLink RX8 15 (gT 8 2).1 (gT 8 2).2.1 (gT 8 2).2.2.1 ∈ TBL := (TBL_of (List.mem_of_getElem? (i := 922) (by decide +kernel)) rfl)
theorem lkX8_18 : Cond.fieldLink RX8 18 (gT 8 3).1 (gT 8 3).2.1 (gT 8 3).2.2.1 ∈ TBL := (TBL_of (List.mem_of_getElem? (i := 923) (by decide +kernel)) rfl)
theorem lkX8_307 : Cond.fieldLink RX8 307 (gT 8 4).1 (gT 8 4).2.1 (gT 8 4).2.2.1 ∈ TBL := (TBL_of (List.mem_of_getElem? (i := 924) (by decide +kernel)) rfl)
theorem lkX8_84 : Cond.fieldLink RX8 84 (gT 8 5).1 (gT 8 5).2.1 (gT 8 5).2.2.1 ∈ TBL := (TBL_of (List.mem_of_getElem? (i := 925) (by decide +kernel)) rfl)
theorem lkX8_57 : Cond.fieldLink RX8 57 (gT 8 6).1 (gT 8 6).2.1 (gT 8 6).2.2.1 ∈ TBL := (TBL_of (List.mem_of_getElem? (i := 926) (by decide +kernel)) rfl)
theorem lkX8_60 : Cond.fieldLink RX8 60 (gT 8 7).1 (gT 8 7).2.1 (gT 8 7).2.2.1 ∈ TBL := (TBL_of (List.mem_of_getElem? (i := 927) (by decide +kernel)) rfl)
theorem lkX8_63 : Cond.fieldLink RX8 63 (gT 8 8).1 (gT 8 8).2.1 (gT 8 8).2.2.1 ∈ TBL := (TBL_of (List.mem_of_getElem? (i := 928) (by decide +kernel)) rfl)
theorem lkX8_87 : Cond.fieldLink RX8 87 (gT 8 9).1 (gT 8 9).2.1 (gT 8 9).2.2.1 ∈ TBL := (TBL_of (List.mem_of_getElem? (i := 929) (by decide +kernel)) rfl)
theorem lkX8_21 : Cond.fieldLink RX8 21 (gT 8 10).1 (gT 8 10).2.1 (gT 8 10).2.2.1 ∈ TBL := (TBL_of (List.mem_of_getElem? (i := 930) (by decide +kernel)) rfl)
theorem lkX8_24 : Cond.fieldLink RX8 24 (gT 8 11).1 (gT 8 11).2.1 (gT 8 11).2.2.1 ∈ TBL := (TBL_of (List.mem_of_getElem? (i := 931) (by decide +kernel)) rfl)
theorem lkX8_28 : Cond.fieldLink RX8 28 (gT 8 12).1 (gT 8 12).2.1 (gT 8 12).2.2.1 ∈ TBL := (TBL_of (List.mem_of_getElem? (i := 932) (by decide +kernel)) rfl)
theorem lkX8_31 : Cond.fieldLink RX8 31 (gT 8 13).1 (gT 8 13).2.1 (gT 8 13).2.2.1 ∈ TBL := (TBL_of (List.mem_of_getElem? (i := 933) (by decide +kernel)) rfl)
theorem lkX8_34 : Cond.fieldLink RX8 34 (gT 8 14).1 (gT 8 14).2.1 (gT 8 14).2.2.1 ∈ TBL := (TBL_of (List.mem_of_getElem? (i := 934) (by decide +kernel)) rfl)
theorem lkX8_37 : Cond.fieldLink RX8 37 (gT 8 15).1 (gT 8 15).2.1 (gT 8 15).2.2.1 ∈ TBL := (TBL_of (List.mem_of_getElem? (i := 935) (by decide +kernel)) rfl)
theorem lkX8_40 : Cond.fieldLink RX8 40 (gT 8 16).1 (gT 8 16).2.1 (gT 8 16).2.2.1 ∈ TBL := (TBL_of (List.mem_of_getElem? (i := 936) (by decide +kernel)) rfl)
theorem lkX8_43 : Cond.fieldLink RX8 43 (gT 8 17).1 (gT 8 17).2.1 (gT 8 17).2.2.1 ∈ TBL := (TBL_of (List.mem_of_getElem? (i := 937) (by decide +kernel)) rfl)
theorem lkX8_204 : Cond.fieldLink RX8 204 (gT 8 18).1 (gT 8 18).2.1 (gT 8 18).2.2.1 ∈ TBL := (TBL_of (List.mem_of_getElem? (i := 938) (by decide +kernel)) rfl)
theorem lkX8_222 : Cond.fieldLink RX8 222 (gT 8 19).1 (gT 8 19).2.1 (gT 8 19).2.2.1 ∈ TBL := (TBL_of (List.mem_of_getElem? (i := 939) (by decide +kernel)) rfl)
theorem lkX8_213 : Cond.fieldLink RX8 213 (gT 8 20).1 (gT 8 20).2.1 (gT 8 20).2.2.1 ∈ TBL := (TBL_of (List.mem_of_getElem? (i := 940) (by decide +kernel)) rfl)
theorem lkX8_216 : Cond.fieldLink RX8 216 (gT 8 21).1 (gT 8 21).2.1 (gT 8 21).2.2.1 ∈ TBL := (TBL_of (List.mem_of_getElem? (i := 941) (by decide +kernel)) rfl)
theorem lkX8_249 : Cond.fieldLink RX8 249 (gT 8 22).1 (gT 8 22).2.1 (gT 8 22).2.2.1 ∈ TBL := (TBL_of (List.mem_of_getElem? (i := 942) (by decide +kernel)) rfl)
theorem lkX8_252 : Cond.fieldLink RX8 252 (gT 8 23).1 (gT 8 23).2.1 (gT 8 23).2.2.1 ∈ TBL := (TBL_of (List.mem_of_getElem? (i := 943) (by decide +kernel)) rfl)
theorem lkX8_46 : Cond.fieldLink RX8 46 (gT 8 24).1 (gT 8 24).2.1 (gT 8 24).2.2.1 ∈ TBL := (TBL_of (List.mem_of_getElem? (i := 944) (by decide +kernel)) rfl)
theorem lkX8_271 : Cond.fieldLink RX8 271 (gT 8 25).1 (gT 8 25).2.1 (gT 8 25).2.2.1 ∈ TBL := (TBL_of (List.mem_of_getElem? (i := 945) (by decide +kernel)) rfl)
theorem lkX8_280 : Cond.fieldLink RX8 280 (gT 8 26).1 (gT 8 26).2.1 (gT 8 26).2.2.1 ∈ TBL := (TBL_of (List.mem_of_getElem? (i := 946) (by decide +kernel)) rfl)
theorem lkX8_277 : Cond.fieldLink RX8 277 (gT 8 27).1 (gT 8 27).2.1 (gT 8 27).2.2.1 ∈ TBL := (TBL_of (List.mem_of_getElem? (i := 947) (by decide +kernel)) rfl)
theorem lkX8_292 : Cond.fieldLink RX8 292 (gT 8 28).1 (gT 8 28).2.1 (gT 8 28).2.2.1 ∈ TBL := (TBL_of (List.mem_of_getElem? (i := 948) (by decide +kernel)) rfl)
theorem ac_boolean : Cond.arrayClass .boolean ∈ TBL := (TBL_of (List.mem_of_getElem? (i := 1008) (by decide +kernel)) rfl)
theorem mlL_17 : Cond.methodLink RL 17 yX8_feed ∈ TBL := (TBL_of (List.mem_of_getElem? (i := 1009) (by decide +kernel)) rfl)
theorem mlX8_53 : Cond.methodLink RX8 53 yX8_in ∈ TBL := (TBL_of (List.mem_of_getElem? (i := 1013) (by decide +kernel)) rfl)
theorem mlL_22 : Cond.methodLink RL 22 yX8_village ∈ TBL := (TBL_of (List.mem_of_getElem? (i := 1016) (by decide +kernel)) rfl)
theorem mlX8_132 : Cond.methodLink RX8 132 yX8_clauseHere ∈ TBL := (TBL_of (List.mem_of_getElem? (i := 1020) (by decide +kernel)) rfl)
theorem mlX8_67 : Cond.methodLink RX8 67 yX8_here ∈ TBL := (TBL_of (List.mem_of_getElem? (i := 1024) (by decide +kernel)) rfl)
theorem mlX8_119 : Cond.methodLink RX8 119 yX8_tellsHere ∈ TBL := (TBL_of (List.mem_of_getElem? (i := 1029) (by decide +kernel)) rfl)
theorem mlX8_113 : Cond.methodLink RX8 113 yX8_spells ∈ TBL := (TBL_of (List.mem_of_getElem? (i := 1033) (by decide +kernel)) rfl)
theorem mlX8_71 : Cond.methodLink RX8 71 yJ0_length_8abf5 ∈ TBL := (TBL_of (List.mem_of_getElem? (i := 1037) (by decide +kernel)) rfl)
theorem mlX8_76 : Cond.methodLink RX8 76 yJ0_charAt_5068e ∈ TBL := (TBL_of (List.mem_of_getElem? (i := 1038) (by decide +kernel)) rfl)
theorem mlX8_80 : Cond.methodLink RX8 80 yX8_must ∈ TBL := (TBL_of (List.mem_of_getElem? (i := 1039) (by decide +kernel)) rfl)
theorem mlX8_107 : Cond.methodLink RX8 107 yX8_figures ∈ TBL := (TBL_of (List.mem_of_getElem? (i := 1043) (by decide +kernel)) rfl)
theorem mlX8_127 : Cond.methodLink RX8 127 yX8_much ∈ TBL := (TBL_of (List.mem_of_getElem? (i := 1049) (by decide +kernel)) rfl)
theorem mlX8_96 : Cond.methodLink RX8 96 yX8_some ∈ TBL := (TBL_of (List.mem_of_getElem? (i := 1053) (by decide +kernel)) rfl)
theorem mlX8_110 : Cond.methodLink RX8 110 yX8_every ∈ TBL := (TBL_of (List.mem_of_getElem? (i := 1057) (by decide +kernel)) rfl)
theorem mlX8_90 : Cond.methodLink RX8 90 yX8_factor ∈ TBL := (TBL_of (List.mem_of_getElem? (i := 1061) (by decide +kernel)) rfl)
theorem mlX8_93 : Cond.methodLink RX8 93 yX8_emits ∈ TBL := (TBL_of (List.mem_of_getElem? (i := 1065) (by decide +kernel)) rfl)
theorem mlX8_101 : Cond.methodLink RX8 101 yX8_among ∈ TBL := (TBL_of (List.mem_of_getElem? (i := 1070) (by decide +kernel)) rfl)
theorem mlL_27 : Cond.methodLink RL 27 yX8_person ∈ TBL := (TBL_of (List.mem_of_getElem? (i := 1076) (by decide +kernel)) rfl)
theorem mlL_32 : Cond.methodLink RL 32 yX8_vintage ∈ TBL := (TBL_of (List.mem_of_getElem? (i := 1080) (by decide +kernel)) rfl)
theorem mlX8_166 : Cond.methodLink RX8 166 yX8_newVintage ∈ TBL := (TBL_of (List.mem_of_getElem? (i := 1084) (by decide +kernel)) rfl)
theorem mlL_36 : Cond.methodLink RL 36 yX8_of ∈ TBL := (TBL_of (List.mem_of_getElem? (i := 1088) (by decide +kernel)) rfl)
theorem mlX8_169 : Cond.methodLink RX8 169 yX8_isPerson ∈ TBL := (TBL_of (List.mem_of_getElem? (i := 1092) (by decide +kernel)) rfl)
theorem mlX8_172 : Cond.methodLink RX8 172 yX8_orNone ∈ TBL := (TBL_of (List.mem_of_getElem? (i := 1096) (by decide +kernel)) rfl)
theorem mlX8_155 : Cond.methodLink RX8 155 yX8_ageOf ∈ TBL := (TBL_of (List.mem_of_getElem? (i := 1099) (by decide +kernel)) rfl)
theorem mlX8_146 : Cond.methodLink RX8 146 yX8_ageBy ∈ TBL := (TBL_of (List.mem_of_getElem? (i := 1103) (by decide +kernel)) rfl)
theorem mlX8_135 : Cond.methodLink RX8 135 yX8_ageIn ∈ TBL := (TBL_of (List.mem_of_getElem? (i := 1107) (by decide +kernel)) rfl)
theorem mlX8_159 : Cond.methodLink RX8 159 yX8_isHere ∈ TBL := (TBL_of (List.mem_of_getElem? (i := 1111) (by decide +kernel)) rfl)
theorem mlX8_139 : Cond.methodLink RX8 139 yX8_isHereAt ∈ TBL := (TBL_of (List.mem_of_getElem? (i := 1115) (by decide +kernel)) rfl)
theorem mlX8_149 : Cond.methodLink RX8 149 yX8_stageAt ∈ TBL := (TBL_of (List.mem_of_getElem? (i := 1119) (by decide +kernel)) rfl)
theorem mlX8_143 : Cond.methodLink RX8 143 yX8_tellsOf ∈ TBL := (TBL_of (List.mem_of_getElem? (i := 1123) (by decide +kernel)) rfl)
theorem mlX8_163 : Cond.methodLink RX8 163 yX8_nerveBy ∈ TBL := (TBL_of (List.mem_of_getElem? (i := 1127) (by decide +kernel)) rfl)
theorem mlX8_152 : Cond.methodLink RX8 152 yX8_looks ∈ TBL := (TBL_of (List.mem_of_getElem? (i := 1131) (by decide +kernel)) rfl)
theorem mlL_41 : Cond.methodLink RL 41 yX8_row ∈ TBL := (TBL_of (List.mem_of_getElem? (i := 1135) (by decide +kernel)) rfl)
theorem mlL_45 : Cond.methodLink RL 45 yX8_wine ∈ TBL := (TBL_of (List.mem_of_getElem? (i := 1139) (by decide +kernel)) rfl)
theorem mlX8_175 : Cond.methodLink RX8 175 yX8_isVintage ∈ TBL := (TBL_of (List.mem_of_getElem? (i := 1143) (by decide +kernel)) rfl)
theorem mlL_49 : Cond.methodLink RL 49 yX8_stock ∈ TBL := (TBL_of (List.mem_of_getElem? (i := 1147) (by decide +kernel)) rfl)
theorem mlL_53 : Cond.methodLink RL 53 yX8_told ∈ TBL := (TBL_of (List.mem_of_getElem? (i := 1151) (by decide +kernel)) rfl)
theorem mlX8_178 : Cond.methodLink RX8 178 yX8_whoIsHere ∈ TBL := (TBL_of (List.mem_of_getElem? (i := 1155) (by decide +kernel)) rfl)
theorem mlX8_181 : Cond.methodLink RX8 181 yX8_allNerve ∈ TBL := (TBL_of (List.mem_of_getElem? (i := 1159) (by decide +kernel)) rfl)
theorem mlX8_184 : Cond.methodLink RX8 184 yX8_allBottles ∈ TBL := (TBL_of (List.mem_of_getElem? (i := 1163) (by decide +kernel)) rfl)
theorem mlL_57 : Cond.methodLink RL 57 yX8_pour ∈ TBL := (TBL_of (List.mem_of_getElem? (i := 1167) (by decide +kernel)) rfl)
theorem mlX8_187 : Cond.methodLink RX8 187 yX8_pours ∈ TBL := (TBL_of (List.mem_of_getElem? (i := 1171) (by decide +kernel)) rfl)
theorem mlL_61 : Cond.methodLink RL 61 yX8_dry ∈ TBL := (TBL_of (List.mem_of_getElem? (i := 1175) (by decide +kernel)) rfl)
theorem mlL_65 : Cond.methodLink RL 65 yX8_dawn ∈ TBL := (TBL_of (List.mem_of_getElem? (i := 1179) (by decide +kernel)) rfl)
theorem mlX8_191 : Cond.methodLink RX8 191 yX8_dawns ∈ TBL := (TBL_of (List.mem_of_getElem? (i := 1183) (by decide +kernel)) rfl)
theorem mlL_69 : Cond.methodLink RL 69 yX8_blend ∈ TBL := (TBL_of (List.mem_of_getElem? (i := 1187) (by decide +kernel)) rfl)
theorem mlL_73 : Cond.methodLink RL 73 yX8_alive ∈ TBL := (TBL_of (List.mem_of_getElem? (i := 1191) (by decide +kernel)) rfl)
theorem mlX8_194 : Cond.methodLink RX8 194 yX8_keeps ∈ TBL := (TBL_of (List.mem_of_getElem? (i := 1195) (by decide +kernel)) rfl)
theorem mlX8_197 : Cond.methodLink RX8 197 yX8_goesBack ∈ TBL := (TBL_of (List.mem_of_getElem? (i := 1199) (by decide +kernel)) rfl)
theorem mlL_77 : Cond.methodLink RL 77 yX8_brings ∈ TBL := (TBL_of (List.mem_of_getElem? (i := 1203) (by decide +kernel)) rfl)
theorem mlL_81 : Cond.methodLink RL 81 yX8_nearest ∈ TBL := (TBL_of (List.mem_of_getElem? (i := 1207) (by decide +kernel)) rfl)
theorem kX8_200 : Cond.constant RX8 200 (100000000) ∈ TBL := (TBL_of (List.mem_of_getElem? (i := 1211) (by decide +kernel)) rfl)
theorem mlX8_201 : Cond.methodLink RX8 201 yX8_apart ∈ TBL := (TBL_of (List.mem_of_getElem? (i := 1212) (by decide +kernel)) rfl)
theorem mlL_85 : Cond.methodLink RL 85 yX8_two ∈ TBL := (TBL_of (List.mem_of_getElem? (i := 1215) (by decide +kernel)) rfl)
theorem mlL_89 : Cond.methodLink RL 89 yX8_meet ∈ TBL := (TBL_of (List.mem_of_getElem? (i := 1219) (by decide +kernel)) rfl)
theorem mlL_93 : Cond.methodLink RL 93 yX8_fewest ∈ TBL := (TBL_of (List.mem_of_getElem? (i := 1223) (by decide +kernel)) rfl)
theorem mlX8_231 : Cond.methodLink RX8 231 yX8_isAsked ∈ TBL := (TBL_of (List.mem_of_getElem? (i := 1227) (by decide +kernel)) rfl)
theorem mlX8_234 : Cond.methodLink RX8 234 yX8_everybody ∈ TBL := (TBL_of (List.mem_of_getElem? (i := 1231) (by decide +kernel)) rfl)
theorem mlX8_237 : Cond.methodLink RX8 237 yX8_looksForSeating ∈ TBL := (TBL_of (List.mem_of_getElem? (i := 1235) (by decide +kernel)) rfl)
theorem mlX8_228 : Cond.methodLink RX8 228 yX8_looksForSeats ∈ TBL := (TBL_of (List.mem_of_getElem? (i := 1239) (by decide +kernel)) rfl)
theorem mlX8_225 : Cond.methodLink RX8 225 yX8_seatsFrom ∈ TBL := (TBL_of (List.mem_of_getElem? (i := 1243) (by decide +kernel)) rfl)
theorem mlX8_219 : Cond.methodLink RX8 219 yX8_keepsSeat ∈ TBL := (TBL_of (List.mem_of_getElem? (i := 1247) (by decide +kernel)) rfl)
theorem mlX8_210 : Cond.methodLink RX8 210 yX8_worth ∈ TBL := (TBL_of (List.mem_of_getElem? (i := 1251) (by decide +kernel)) rfl)
theorem mlX8_207 : Cond.methodLink RX8 207 yX8_spread ∈ TBL := (TBL_of (List.mem_of_getElem? (i := 1255) (by decide +kernel)) rfl)
theorem mlX8_240 : Cond.methodLink RX8 240 yX8_seatOf ∈ TBL := (TBL_of (List.mem_of_getElem? (i := 1259) (by decide +kernel)) rfl)
theorem mlL_97 : Cond.methodLink RL 97 yX8_close ∈ TBL := (TBL_of (List.mem_of_getElem? (i := 1263) (by decide +kernel)) rfl)
theorem mlL_101 : Cond.methodLink RL 101 yX8_boldest ∈ TBL := (TBL_of (List.mem_of_getElem? (i := 1267) (by decide +kernel)) rfl)
theorem mlL_105 : Cond.methodLink RL 105 yX8_see ∈ TBL := (TBL_of (List.mem_of_getElem? (i := 1271) (by decide +kernel)) rfl)
theorem mlX8_243 : Cond.methodLink RX8 243 yX8_isAge ∈ TBL := (TBL_of (List.mem_of_getElem? (i := 1275) (by decide +kernel)) rfl)
theorem mlL_109 : Cond.methodLink RL 109 yX8_drank ∈ TBL := (TBL_of (List.mem_of_getElem? (i := 1278) (by decide +kernel)) rfl)
theorem mlX8_246 : Cond.methodLink RX8 246 yX8_isAsSeen ∈ TBL := (TBL_of (List.mem_of_getElem? (i := 1282) (by decide +kernel)) rfl)
theorem mlL_113 : Cond.methodLink RL 113 yX8_birth ∈ TBL := (TBL_of (List.mem_of_getElem? (i := 1286) (by decide +kernel)) rfl)
theorem mlX8_255 : Cond.methodLink RX8 255 yX8_looksForFitting ∈ TBL := (TBL_of (List.mem_of_getElem? (i := 1290) (by decide +kernel)) rfl)
theorem mlL_117 : Cond.methodLink RL 117 yX8_firm ∈ TBL := (TBL_of (List.mem_of_getElem? (i := 1294) (by decide +kernel)) rfl)
theorem mlL_122 : Cond.methodLink RL 122 yX8_odds ∈ TBL := (TBL_of (List.mem_of_getElem? (i := 1298) (by decide +kernel)) rfl)
theorem kX8_259 : Cond.constantLong RX8 259 (-9223372036854775808) ∈ TBL := (TBL_of (List.mem_of_getElem? (i := 1302) (by decide +kernel)) rfl)
theorem mlX8_261 : Cond.methodLink RX8 261 yX8_lowest ∈ TBL := (TBL_of (List.mem_of_getElem? (i := 1303) (by decide +kernel)) rfl)
theorem mlL_127 : Cond.methodLink RL 127 yX8_mean ∈ TBL := (TBL_of (List.mem_of_getElem? (i := 1306) (by decide +kernel)) rfl)
theorem mlX8_265 : Cond.methodLink RX8 265 yX8_countOf ∈ TBL := (TBL_of (List.mem_of_getElem? (i := 1310) (by decide +kernel)) rfl)
theorem mlL_131 : Cond.methodLink RL 131 yX8_night ∈ TBL := (TBL_of (List.mem_of_getElem? (i := 1313) (by decide +kernel)) rfl)
theorem mlL_135 : Cond.methodLink RL 135 yX8_done ∈ TBL := (TBL_of (List.mem_of_getElem? (i := 1317) (by decide +kernel)) rfl)
theorem mlX8_268 : Cond.methodLink RX8 268 yX8_does ∈ TBL := (TBL_of (List.mem_of_getElem? (i := 1321) (by decide +kernel)) rfl)
theorem mlL_139 : Cond.methodLink RL 139 yX8_book ∈ TBL := (TBL_of (List.mem_of_getElem? (i := 1325) (by decide +kernel)) rfl)
theorem mlL_143 : Cond.methodLink RL 143 yX8_looked ∈ TBL := (TBL_of (List.mem_of_getElem? (i := 1329) (by decide +kernel)) rfl)
theorem mlL_147 : Cond.methodLink RL 147 yX8_act ∈ TBL := (TBL_of (List.mem_of_getElem? (i := 1333) (by decide +kernel)) rfl)
theorem mlX8_289 : Cond.methodLink RX8 289 yX8_drinksActs ∈ TBL := (TBL_of (List.mem_of_getElem? (i := 1337) (by decide +kernel)) rfl)
theorem mlX8_283 : Cond.methodLink RX8 283 yX8_isUnder ∈ TBL := (TBL_of (List.mem_of_getElem? (i := 1341) (by decide +kernel)) rfl)
theorem mlX8_274 : Cond.methodLink RX8 274 yX8_ranBody ∈ TBL := (TBL_of (List.mem_of_getElem? (i := 1344) (by decide +kernel)) rfl)
theorem mlX8_286 : Cond.methodLink RX8 286 yX8_plainDrinks ∈ TBL := (TBL_of (List.mem_of_getElem? (i := 1348) (by decide +kernel)) rfl)
theorem mlX8_298 : Cond.methodLink RX8 298 yX8_agesActs ∈ TBL := (TBL_of (List.mem_of_getElem? (i := 1352) (by decide +kernel)) rfl)
theorem mlX8_295 : Cond.methodLink RX8 295 yX8_plainAges ∈ TBL := (TBL_of (List.mem_of_getElem? (i := 1356) (by decide +kernel)) rfl)
theorem mlX8_304 : Cond.methodLink RX8 304 yX8_tellsActs ∈ TBL := (TBL_of (List.mem_of_getElem? (i := 1360) (by decide +kernel)) rfl)
theorem mlX8_301 : Cond.methodLink RX8 301 yX8_plainTelling ∈ TBL := (TBL_of (List.mem_of_getElem? (i := 1364) (by decide +kernel)) rfl)
theorem mlL_151 : Cond.methodLink RL 151 yX8_trace ∈ TBL := (TBL_of (List.mem_of_getElem? (i := 1368) (by decide +kernel)) rfl)
theorem mlL_155 : Cond.methodLink RL 155 yX8_as ∈ TBL := (TBL_of (List.mem_of_getElem? (i := 1372) (by decide +kernel)) rfl)
theorem mlL_159 : Cond.methodLink RL 159 yX8_image ∈ TBL := (TBL_of (List.mem_of_getElem? (i := 1376) (by decide +kernel)) rfl)
theorem mlL_163 : Cond.methodLink RL 163 yX8_undo ∈ TBL := (TBL_of (List.mem_of_getElem? (i := 1380) (by decide +kernel)) rfl)
theorem mlL_167 : Cond.methodLink RL 167 yX8_count ∈ TBL := (TBL_of (List.mem_of_getElem? (i := 1384) (by decide +kernel)) rfl)
theorem lsJ0_9 : Cond.fieldLink RJ0 9 "java/lang/String" "value" "[B" ∈ TBL := (TBL_of (List.mem_of_getElem? (i := 1388) (by decide +kernel)) rfl)
theorem lsJ0_15 : Cond.fieldLink RJ0 15 "java/lang/String" "coder" "B" ∈ TBL := (TBL_of (List.mem_of_getElem? (i := 1389) (by decide +kernel)) rfl)
theorem sm_max : Cond.static Lib.Math.max.name ∈ TBL := (TBL_of (List.mem_of_getElem? (i := 503) (by decide +kernel)) rfl)
theorem cm_max : Cond.code Lib.Math.max.name Lib.Math.max.code 2 (some .int) ∈ TBL := (TBL_of (List.mem_of_getElem? (i := 504) (by decide +kernel)) rfl)
theorem sm_min : Cond.static Lib.Math.min.name ∈ TBL := (TBL_of (List.mem_of_getElem? (i := 506) (by decide +kernel)) rfl)
theorem cm_min : Cond.code Lib.Math.min.name Lib.Math.min.code 2 (some .int) ∈ TBL := (TBL_of (List.mem_of_getElem? (i := 507) (by decide +kernel)) rfl)
theorem sm_abs : Cond.static Lib.Math.abs.name ∈ TBL := (TBL_of (List.mem_of_getElem? (i := 709) (by decide +kernel)) rfl)
theorem cm_abs : Cond.code Lib.Math.abs.name Lib.Math.abs.code 1 (some .int) ∈ TBL := (TBL_of (List.mem_of_getElem? (i := 710) (by decide +kernel)) rfl)
theorem im_obj : Cond.instanceMethod Lib.objectInit ∈ TBL := (TBL_of (List.mem_of_getElem? (i := 99) (by decide +kernel)) rfl)
theorem cm_obj : Cond.code Lib.objectInit ⟨#[0xb1]⟩ 1 none ∈ TBL := (TBL_of (List.mem_of_getElem? (i := 100) (by decide +kernel)) rfl)
theorem nat_copy : Cond.native arraycopyName ∈ TBL := (TBL_of (List.mem_of_getElem? (i := 775) (by decide +kernel)) rfl)
theorem sm_copy : Cond.static arraycopyName ∈ TBL := (TBL_of (List.mem_of_getElem? (i := 774) (by decide +kernel)) rfl)
theorem lnX7_257 : gLink RX7 257 0 0 := Or.inr ⟨"DrunkByYear", List.mem_of_getElem? (i := 0) (by decide +kernel)⟩
theorem lnX7_250 : gLink RX7 250 0 1 := Or.inr ⟨"DrunkByYear", List.mem_of_getElem? (i := 1) (by decide +kernel)⟩
theorem lnX2_49 : gLink RX2 49 5 0 := Or.inr ⟨"DrunkByYear", List.mem_of_getElem? (i := 2) (by decide +kernel)⟩
theorem lnX6_96 : gLink RX6 96 5 0 := Or.inr ⟨"DrunkByYear", List.mem_of_getElem? (i := 3) (by decide +kernel)⟩
theorem lnX7_152 : gLink RX7 152 5 0 := Or.inr ⟨"DrunkByYear", List.mem_of_getElem? (i := 4) (by decide +kernel)⟩
theorem lnX2_54 : gLink RX2 54 5 1 := Or.inr ⟨"DrunkByYear", List.mem_of_getElem? (i := 5) (by decide +kernel)⟩
theorem lnX6_99 : gLink RX6 99 5 1 := Or.inr ⟨"DrunkByYear", List.mem_of_getElem? (i := 6) (by decide +kernel)⟩
theorem lnX7_155 : gLink RX7 155 5 1 := Or.inr ⟨"DrunkByYear", List.mem_of_getElem? (i := 7) (by decide +kernel)⟩
theorem lnX6_124 : gLink RX6 124 3 0 := Or.inr ⟨"DrunkByYear", List.mem_of_getElem? (i := 8) (by decide +kernel)⟩
theorem lnX6_130 : gLink RX6 130 3 1 := Or.inr ⟨"DrunkByYear", List.mem_of_getElem? (i := 9) (by decide +kernel)⟩
theorem lnX7_244 : gLink RX7 244 3 1 := Or.inr ⟨"DrunkByYear", List.mem_of_getElem? (i := 10) (by decide +kernel)⟩
theorem lnX6_133 : gLink RX6 133 3 2 := Or.inr ⟨"DrunkByYear", List.mem_of_getElem? (i := 11) (by decide +kernel)⟩
theorem lnX7_247 : gLink RX7 247 3 2 := Or.inr ⟨"DrunkByYear", List.mem_of_getElem? (i := 12) (by decide +kernel)⟩
theorem lnX6_121 : gLink RX6 121 3 3 := Or.inr ⟨"DrunkByYear", List.mem_of_getElem? (i := 13) (by decide +kernel)⟩
theorem lnX7_241 : gLink RX7 241 3 3 := Or.inr ⟨"DrunkByYear", List.mem_of_getElem? (i := 14) (by decide +kernel)⟩
theorem lnX0_25 : gLink RX0 25 1 0 := Or.inr ⟨"DrunkByYear", List.mem_of_getElem? (i := 15) (by decide +kernel)⟩
theorem lnX0_34 : gLink RX0 34 1 1 := Or.inr ⟨"DrunkByYear", List.mem_of_getElem? (i := 16) (by decide +kernel)⟩
theorem lnX7_108 : gLink RX7 108 1 1 := Or.inr ⟨"DrunkByYear", List.mem_of_getElem? (i := 17) (by decide +kernel)⟩
theorem lnX6_102 : gLink RX6 102 1 1 := Or.inr ⟨"DrunkByYear", List.mem_of_getElem? (i := 18) (by decide +kernel)⟩
theorem lnX0_31 : gLink RX0 31 1 2 := Or.inr ⟨"DrunkByYear", List.mem_of_getElem? (i := 19) (by decide +kernel)⟩
theorem lnX7_111 : gLink RX7 111 1 2 := Or.inr ⟨"DrunkByYear", List.mem_of_getElem? (i := 20) (by decide +kernel)⟩
theorem lnX6_105 : gLink RX6 105 1 2 := Or.inr ⟨"DrunkByYear", List.mem_of_getElem? (i := 21) (by decide +kernel)⟩
theorem lnX7_114 : gLink RX7 114 1 3 := Or.inr ⟨"DrunkByYear", List.mem_of_getElem? (i := 22) (by decide +kernel)⟩
theorem lnX7_117 : gLink RX7 117 1 4 := Or.inr ⟨"DrunkByYear", List.mem_of_getElem? (i := 23) (by decide +kernel)⟩
theorem lnX7_120 : gLink RX7 120 1 5 := Or.inr ⟨"DrunkByYear", List.mem_of_getElem? (i := 24) (by decide +kernel)⟩
theorem lnX6_112 : gLink RX6 112 1 5 := Or.inr ⟨"DrunkByYear", List.mem_of_getElem? (i := 25) (by decide +kernel)⟩
theorem lnX7_136 : gLink RX7 136 1 6 := Or.inr ⟨"DrunkByYear", List.mem_of_getElem? (i := 26) (by decide +kernel)⟩
theorem lnX7_149 : gLink RX7 149 6 0 := Or.inr ⟨"DrunkByYear", List.mem_of_getElem? (i := 27) (by decide +kernel)⟩
theorem lnX4_52 : gLink RX4 52 6 1 := Or.inr ⟨"DrunkByYear", List.mem_of_getElem? (i := 28) (by decide +kernel)⟩
theorem lnX7_82 : gLink RX7 82 6 1 := Or.inr ⟨"DrunkByYear", List.mem_of_getElem? (i := 29) (by decide +kernel)⟩
theorem lnX4_88 : gLink RX4 88 6 2 := Or.inr ⟨"DrunkByYear", List.mem_of_getElem? (i := 30) (by decide +kernel)⟩
theorem lnX7_98 : gLink RX7 98 6 2 := Or.inr ⟨"DrunkByYear", List.mem_of_getElem? (i := 31) (by decide +kernel)⟩
theorem lnX7_57 : gLink RX7 57 6 3 := Or.inr ⟨"DrunkByYear", List.mem_of_getElem? (i := 32) (by decide +kernel)⟩
theorem lnX7_49 : gLink RX7 49 6 4 := Or.inr ⟨"DrunkByYear", List.mem_of_getElem? (i := 33) (by decide +kernel)⟩
theorem lnX7_71 : gLink RX7 71 6 5 := Or.inr ⟨"DrunkByYear", List.mem_of_getElem? (i := 34) (by decide +kernel)⟩
theorem lnX7_85 : gLink RX7 85 6 6 := Or.inr ⟨"DrunkByYear", List.mem_of_getElem? (i := 35) (by decide +kernel)⟩
theorem lnX7_143 : gLink RX7 143 6 7 := Or.inr ⟨"DrunkByYear", List.mem_of_getElem? (i := 36) (by decide +kernel)⟩
theorem lnX4_91 : gLink RX4 91 6 8 := Or.inr ⟨"DrunkByYear", List.mem_of_getElem? (i := 37) (by decide +kernel)⟩
theorem lnX7_146 : gLink RX7 146 6 8 := Or.inr ⟨"DrunkByYear", List.mem_of_getElem? (i := 38) (by decide +kernel)⟩
theorem lnX7_53 : gLink RX7 53 6 9 := Or.inr ⟨"DrunkByYear", List.mem_of_getElem? (i := 39) (by decide +kernel)⟩
theorem lnX7_198 : gLink RX7 198 6 10 := Or.inr ⟨"DrunkByYear", List.mem_of_getElem? (i := 40) (by decide +kernel)⟩
theorem lnX7_216 : gLink RX7 216 6 11 := Or.inr ⟨"DrunkByYear", List.mem_of_getElem? (i := 41) (by decide +kernel)⟩
theorem lnX7_238 : gLink RX7 238 6 12 := Or.inr ⟨"DrunkByYear", List.mem_of_getElem? (i := 42) (by decide +kernel)⟩
theorem lnX7_68 : gLink RX7 68 2 3 := Or.inr ⟨"DrunkByYear", List.mem_of_getElem? (i := 43) (by decide +kernel)⟩
theorem ltX0_15 : Cond.fieldLinkNest RX0 15 "DrunkByYear" "ABOVE" "[I" "DrunkByYear" ∈ nestL := List.mem_of_getElem? (i := 44) (by decide +kernel)
theorem mnX7_19 : Cond.methodLinkNest RX7 19 yX0_init "DrunkByYear" ∈ nestL := List.mem_of_getElem? (i := 45) (by decide +kernel)
theorem mnX4_94 : Cond.methodLinkNest RX4 94 yX7_shown "DrunkByYear" ∈ nestL := List.mem_of_getElem? (i := 46) (by decide +kernel)
theorem mnX7_253 : Cond.methodLinkNest RX7 253 yX0_perform "DrunkByYear" ∈ nestL := List.mem_of_getElem? (i := 47) (by decide +kernel)
