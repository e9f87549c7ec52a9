/-! METHODS AND LINKS (by program) -/
theorem sw_subs (ws : List Cond) (ps : List Nat) (hp : ws = ps.filterMap (fun i => lw_tbl[i]?)) (h : ws.all goodWord = true) : ∀ u ∈ ws, u ∈ sw_big := fun u hu => sw_big_in ((goodIn_r (big := lw_tbl) ws ps hp h) u hu).1 (List.all_eq_true.mp h u hu)
theorem cf_0 : sw_cf 0 RX0 TX0 7 := ⟨rfl, rfl, sw_subs _ [204, 206, 208, 210, 212, 214, 216] (by decide +kernel) (by decide +kernel), tyX0_ok, nmX0⟩
theorem cf_1 : sw_cf 1 RX1 TX1 3 := ⟨rfl, rfl, sw_subs _ [109, 111, 113] (by decide +kernel) (by decide +kernel), tyX1_ok, nmX1⟩
theorem cf_2 : sw_cf 2 RX2 TX2 2 := ⟨rfl, rfl, sw_subs _ [279, 281] (by decide +kernel) (by decide +kernel), tyX2_ok, nmX2⟩
theorem cf_3 : sw_cf 3 RX3 TX3 3 := ⟨rfl, rfl, sw_subs _ [160, 162, 164] (by decide +kernel) (by decide +kernel), tyX3_ok, nmX3⟩
theorem cf_4 : sw_cf 4 RX4 TX4 2 := ⟨rfl, rfl, sw_subs _ [316, 318] (by decide +kernel) (by decide +kernel), tyX4_ok, nmX4⟩
theorem cf_5 : sw_cf 5 RX5 TX5 4 := ⟨rfl, rfl, sw_subs _ [240, 242, 244, 246] (by decide +kernel) (by decide +kernel), tyX5_ok, nmX5⟩
theorem cf_6 : sw_cf 6 RX6 TX6 2 := ⟨rfl, rfl, sw_subs _ [296, 298] (by decide +kernel) (by decide +kernel), tyX6_ok, nmX6⟩
theorem cf_7 : sw_cf 7 RX7 TX7 2 := ⟨rfl, rfl, sw_subs _ [131, 133] (by decide +kernel) (by decide +kernel), tyX7_ok, nmX7⟩
theorem cf_8 : sw_cf 8 RX8 TX8 3 := ⟨rfl, rfl, sw_subs _ [253, 255, 257] (by decide +kernel) (by decide +kernel), tyX8_ok, nmX8⟩
theorem cf_9 : sw_cf 9 RX9 TX9 3 := ⟨rfl, rfl, sw_subs _ [184, 186, 188] (by decide +kernel) (by decide +kernel), tyX9_ok, nmX9⟩
theorem cf_10 : sw_cf 10 RX10 TX10 2 := ⟨rfl, rfl, sw_subs _ [149, 151] (by decide +kernel) (by decide +kernel), tyX10_ok, nmX10⟩
theorem cf_11 : sw_cf 11 RX11 TX11 15 := ⟨rfl, rfl, sw_subs _ [336, 338, 340, 342, 344, 346, 348, 350, 352, 354, 356, 358, 360, 362, 364] (by decide +kernel) (by decide +kernel), tyX11_ok, nmX11⟩
theorem cf_12 : sw_cf 12 RX12 TX12 34 := ⟨rfl, rfl, sw_subs _ [956, 958, 960, 962, 964, 966, 968, 970, 972, 974, 976, 978, 980, 982, 984, 986, 988, 990, 992, 994, 996, 998, 1000, 1002, 1004, 1006, 1008, 1010, 1012, 1014, 1016, 1018, 1020, 1022] (by decide +kernel) (by decide +kernel), tyX12_ok, nmX12⟩
abbrev mX0_init : sw_M := (yX0_init, cX0_init, 1, none)
abbrev mX0_has : sw_M := (yX0_has, cX0_has, 2, (some .boolean))
abbrev mX0_told : sw_M := (yX0_told, cX0_told, 3, (some .long))
abbrev mX0_fill : sw_M := (yX0_fill, cX0_fill, 2, none)
abbrev mX0_spread : sw_M := (yX0_spread, cX0_spread, 13, none)
abbrev mX0_tryGroupOf : sw_M := (yX0_tryGroupOf, cX0_tryGroupOf, 7, none)
abbrev mX0_insert : sw_M := (yX0_insert, cX0_insert, 7, none)
abbrev mX0_placeFor : sw_M := (yX0_placeFor, cX0_placeFor, 9, (some .int))
abbrev mX0_isAt : sw_M := (yX0_isAt, cX0_isAt, 6, (some .boolean))
abbrev mX0_numberOf : sw_M := (yX0_numberOf, cX0_numberOf, 8, (some .int))
abbrev mX0_numberGroups : sw_M := (yX0_numberGroups, cX0_numberGroups, 4, none)
abbrev mX0_sizeOfGroup : sw_M := (yX0_sizeOfGroup, cX0_sizeOfGroup, 4, (some .int))
abbrev mX0_firstOfGroup : sw_M := (yX0_firstOfGroup, cX0_firstOfGroup, 3, (some .int))
abbrev mX1_init : sw_M := (yX1_init, cX1_init, 1, none)
abbrev mX1_has : sw_M := (yX1_has, cX1_has, 2, (some .boolean))
abbrev mX1_placeOf : sw_M := (yX1_placeOf, cX1_placeOf, 3, (some .int))
abbrev mX1_product : sw_M := (yX1_product, cX1_product, 3, (some .int))
abbrev mX1_insert : sw_M := (yX1_insert, cX1_insert, 4, (some .int))
abbrev mX1_removeAt : sw_M := (yX1_removeAt, cX1_removeAt, 3, none)
abbrev mX1_boxesHold : sw_M := (yX1_boxesHold, cX1_boxesHold, 7, (some .boolean))
abbrev mX1_copy : sw_M := (yX1_copy, cX1_copy, 2, none)
abbrev mX2_init : sw_M := (yX2_init, cX2_init, 2, none)
abbrev mX2_add : sw_M := (yX2_add, cX2_add, 2, (some .boolean))
abbrev mX2_at : sw_M := (yX2_at, cX2_at, 2, (some .int))
abbrev mX2_clear : sw_M := (yX2_clear, cX2_clear, 1, none)
abbrev mX3_init : sw_M := (yX3_init, cX3_init, 2, none)
abbrev mX3_addPrime : sw_M := (yX3_addPrime, cX3_addPrime, 7, none)
abbrev mX3_removePrime : sw_M := (yX3_removePrime, cX3_removePrime, 6, none)
abbrev mX3_copy : sw_M := (yX3_copy, cX3_copy, 3, none)
abbrev mX4_init : sw_M := (yX4_init, cX4_init, 1, none)
abbrev mX4_start : sw_M := (yX4_start, cX4_start, 3, none)
abbrev mX4_isMissing : sw_M := (yX4_isMissing, cX4_isMissing, 2, (some .boolean))
abbrev mX4_has : sw_M := (yX4_has, cX4_has, 3, (some .boolean))
abbrev mX4_howManyThere : sw_M := (yX4_howManyThere, cX4_howManyThere, 6, (some .int))
abbrev mX5_init : sw_M := (yX5_init, cX5_init, 1, none)
abbrev mX5_fill : sw_M := (yX5_fill, cX5_fill, 5, none)
abbrev mX5_note : sw_M := (yX5_note, cX5_note, 2, none)
abbrev mX5_residueOf : sw_M := (yX5_residueOf, cX5_residueOf, 5, (some .int))
abbrev mX5_powerOfPrime : sw_M := (yX5_powerOfPrime, cX5_powerOfPrime, 6, (some .int))
abbrev mX5_letsPass : sw_M := (yX5_letsPass, cX5_letsPass, 2, (some .boolean))
abbrev mX6_init : sw_M := (yX6_init, cX6_init, 1, none)
abbrev mX6_scan : sw_M := (yX6_scan, cX6_scan, 4, (some .boolean))
abbrev mX6_scanFactor : sw_M := (yX6_scanFactor, cX6_scanFactor, 4, (some .boolean))
abbrev mX6_scanNumber : sw_M := (yX6_scanNumber, cX6_scanNumber, 4, (some .int))
abbrev mX6_scanPower : sw_M := (yX6_scanPower, cX6_scanPower, 5, (some .boolean))
abbrev mX6_isFigure : sw_M := (yX6_isFigure, cX6_isFigure, 1, (some .boolean))
abbrev mX7_init : sw_M := (yX7_init, cX7_init, 1, none)
abbrev mX7_ask : sw_M := (yX7_ask, cX7_ask, 2, none)
abbrev mX7_remove : sw_M := (yX7_remove, cX7_remove, 3, (some .boolean))
abbrev mX7_removeAt : sw_M := (yX7_removeAt, cX7_removeAt, 3, none)
abbrev mX7_copy : sw_M := (yX7_copy, cX7_copy, 2, none)
abbrev mX8_init : sw_M := (yX8_init, cX8_init, 2, none)
abbrev mX8_sift : sw_M := (yX8_sift, cX8_sift, 4, (some .int))
abbrev mX8_passing : sw_M := (yX8_passing, cX8_passing, 10, (some .int))
abbrev mX8_passingSigns : sw_M := (yX8_passingSigns, cX8_passingSigns, 3, (some .int))
abbrev mX8_isCaught : sw_M := (yX8_isCaught, cX8_isCaught, 4, (some .boolean))
abbrev mX9_init : sw_M := (yX9_init, cX9_init, 1, none)
abbrev mX9_set : sw_M := (yX9_set, cX9_set, 5, none)
abbrev mX9_formAbove : sw_M := (yX9_formAbove, cX9_formAbove, 2, (some .long))
abbrev mX9_formBelow : sw_M := (yX9_formBelow, cX9_formBelow, 2, (some .long))
abbrev mX9_rawAbove : sw_M := (yX9_rawAbove, cX9_rawAbove, 2, (some .long))
abbrev mX9_rawBelow : sw_M := (yX9_rawBelow, cX9_rawBelow, 2, (some .long))
abbrev mX9_unlikeForms : sw_M := (yX9_unlikeForms, cX9_unlikeForms, 3, (some .int))
abbrev mX9_isLikeAnEarlierOne : sw_M := (yX9_isLikeAnEarlierOne, cX9_isLikeAnEarlierOne, 3, (some .boolean))
abbrev mX10_init : sw_M := (yX10_init, cX10_init, 1, none)
abbrev mX10_setOne : sw_M := (yX10_setOne, cX10_setOne, 1, none)
abbrev mX10_copy : sw_M := (yX10_copy, cX10_copy, 2, none)
abbrev mX10_insertPower : sw_M := (yX10_insertPower, cX10_insertPower, 3, none)
abbrev mX10_removePower : sw_M := (yX10_removePower, cX10_removePower, 3, none)
abbrev mX10_above : sw_M := (yX10_above, cX10_above, 2, (some .long))
abbrev mX10_below : sw_M := (yX10_below, cX10_below, 2, (some .long))
abbrev mX10_oneSide : sw_M := (yX10_oneSide, cX10_oneSide, 8, (some .long))
abbrev mX10_greatestPower : sw_M := (yX10_greatestPower, cX10_greatestPower, 6, (some .int))
abbrev mX10_isInRange : sw_M := (yX10_isInRange, cX10_isInRange, 1, (some .boolean))
abbrev mX10_isWithin : sw_M := (yX10_isWithin, cX10_isWithin, 3, (some .boolean))
abbrev mX10_setProduct : sw_M := (yX10_setProduct, cX10_setProduct, 5, none)
abbrev mX10_setFraction : sw_M := (yX10_setFraction, cX10_setFraction, 13, (some .boolean))
abbrev mX10_spell : sw_M := (yX10_spell, cX10_spell, 5, none)
abbrev mX10_spellFactor : sw_M := (yX10_spellFactor, cX10_spellFactor, 3, none)
abbrev mX11_init : sw_M := (yX11_init, cX11_init, 1, none)
abbrev mX11_prime : sw_M := (yX11_prime, cX11_prime, 3, (some .int))
abbrev mX11_drop : sw_M := (yX11_drop, cX11_drop, 2, (some .int))
abbrev mX11_primeOf : sw_M := (yX11_primeOf, cX11_primeOf, 2, (some .int))
abbrev mX11_box : sw_M := (yX11_box, cX11_box, 4, (some .int))
abbrev mX11_boxOf : sw_M := (yX11_boxOf, cX11_boxOf, 2, (some .int))
abbrev mX11_put : sw_M := (yX11_put, cX11_put, 6, (some .int))
abbrev mX11_sign : sw_M := (yX11_sign, cX11_sign, 3, (some .int))
abbrev mX11_powerOf : sw_M := (yX11_powerOf, cX11_powerOf, 3, (some .int))
abbrev mX11_value : sw_M := (yX11_value, cX11_value, 4, (some .long))
abbrev mX11_height : sw_M := (yX11_height, cX11_height, 2, (some .int))
abbrev mX11_isIn : sw_M := (yX11_isIn, cX11_isIn, 2, (some .int))
abbrev mX11_times : sw_M := (yX11_times, cX11_times, 4, (some .int))
abbrev mX11_over : sw_M := (yX11_over, cX11_over, 4, (some .int))
abbrev mX11_partner : sw_M := (yX11_partner, cX11_partner, 3, (some .int))
abbrev mX11_form : sw_M := (yX11_form, cX11_form, 4, (some .int))
abbrev mX11_forms : sw_M := (yX11_forms, cX11_forms, 2, (some .int))
abbrev mX11_answers : sw_M := (yX11_answers, cX11_answers, 1, (some .int))
abbrev mX11_answer : sw_M := (yX11_answer, cX11_answer, 3, (some .long))
abbrev mX11_take : sw_M := (yX11_take, cX11_take, 4, (some .int))
abbrev mX11_which : sw_M := (yX11_which, cX11_which, 3, (some .int))
abbrev mX11_groups : sw_M := (yX11_groups, cX11_groups, 1, (some .int))
abbrev mX11_groupOf : sw_M := (yX11_groupOf, cX11_groupOf, 3, (some .int))
abbrev mX11_group : sw_M := (yX11_group, cX11_group, 4, (some .int))
abbrev mX11_lots : sw_M := (yX11_lots, cX11_lots, 9, (some .int))
abbrev mX11_sieve : sw_M := (yX11_sieve, cX11_sieve, 3, (some .int))
abbrev mX11_sieveOf : sw_M := (yX11_sieveOf, cX11_sieveOf, 2, (some .int))
abbrev mX11_forget : sw_M := (yX11_forget, cX11_forget, 2, (some .int))
abbrev mX11_order : sw_M := (yX11_order, cX11_order, 4, (some .int))
abbrev mX11_reach : sw_M := (yX11_reach, cX11_reach, 3, (some .int))
abbrev mX11_passes : sw_M := (yX11_passes, cX11_passes, 4, (some .int))
abbrev mX11_left : sw_M := (yX11_left, cX11_left, 1, (some .int))
abbrev mX11_feed : sw_M := (yX11_feed, cX11_feed, 2, (some .int))
abbrev mX11_wipe : sw_M := (yX11_wipe, cX11_wipe, 2, (some .int))
abbrev mX11_read : sw_M := (yX11_read, cX11_read, 3, (some .int))
abbrev mX11_spelled : sw_M := (yX11_spelled, cX11_spelled, 3, (some .int))
abbrev mX11_list : sw_M := (yX11_list, cX11_list, 3, (some .int))
abbrev mX11_lay : sw_M := (yX11_lay, cX11_lay, 5, (some .int))
abbrev mX11_get : sw_M := (yX11_get, cX11_get, 3, (some .long))
abbrev mX11_film : sw_M := (yX11_film, cX11_film, 6, (some .int))
abbrev mX11_judge : sw_M := (yX11_judge, cX11_judge, 8, (some .int))
abbrev mX11_image : sw_M := (yX11_image, cX11_image, 1, (some .int))
abbrev mX11_undo : sw_M := (yX11_undo, cX11_undo, 1, (some .int))
abbrev mX11_count : sw_M := (yX11_count, cX11_count, 2, (some .int))
abbrev mX11_isShelf : sw_M := (yX11_isShelf, cX11_isShelf, 1, (some .boolean))
abbrev mX11_isPart : sw_M := (yX11_isPart, cX11_isPart, 1, (some .boolean))
abbrev mX11_isList : sw_M := (yX11_isList, cX11_isList, 1, (some .boolean))
abbrev mX11_isPrimeWithin : sw_M := (yX11_isPrimeWithin, cX11_isPrimeWithin, 4, (some .boolean))
abbrev mX11_nextSeed : sw_M := (yX11_nextSeed, cX11_nextSeed, 1, (some .int))
abbrev mX11_draw : sw_M := (yX11_draw, cX11_draw, 2, (some .int))
abbrev mX11_orderModulo : sw_M := (yX11_orderModulo, cX11_orderModulo, 4, (some .int))
abbrev mX11_divides : sw_M := (yX11_divides, cX11_divides, 3, (some .boolean))
abbrev mX11_primesChanged : sw_M := (yX11_primesChanged, cX11_primesChanged, 1, none)
abbrev mX11_known : sw_M := (yX11_known, cX11_known, 1, (some (.object "SumsToOne$Answers")))
abbrev mX11_combine : sw_M := (yX11_combine, cX11_combine, 5, (some .int))
abbrev mX11_hasPartner : sw_M := (yX11_hasPartner, cX11_hasPartner, 2, (some .boolean))
abbrev mX11_howManyPairs : sw_M := (yX11_howManyPairs, cX11_howManyPairs, 3, (some .int))
abbrev mX11_greatestHeightIn : sw_M := (yX11_greatestHeightIn, cX11_greatestHeightIn, 5, (some .int))
abbrev mX11_faultOfModulus : sw_M := (yX11_faultOfModulus, cX11_faultOfModulus, 2, (some .int))
abbrev mX12_init : sw_M := (yX12_init, cX12_init, 1, none)
abbrev mX12_in : sw_M := (yX12_in, cX12_in, 3, (some .boolean))
abbrev mX12_isPrime : sw_M := (yX12_isPrime, cX12_isPrime, 2, (some .boolean))
abbrev mX12_isShelf : sw_M := (yX12_isShelf, cX12_isShelf, 1, (some .boolean))
abbrev mX12_isWhole : sw_M := (yX12_isWhole, cX12_isWhole, 2, (some .boolean))
abbrev mX12_placeOf : sw_M := (yX12_placeOf, cX12_placeOf, 3, (some .int))
abbrev mX12_prime : sw_M := (yX12_prime, cX12_prime, 5, (some .int))
abbrev mX12_moves : sw_M := (yX12_moves, cX12_moves, 4, none)
abbrev mX12_drop : sw_M := (yX12_drop, cX12_drop, 3, (some .int))
abbrev mX12_primeOf : sw_M := (yX12_primeOf, cX12_primeOf, 2, (some .int))
abbrev mX12_box : sw_M := (yX12_box, cX12_box, 4, (some .int))
abbrev mX12_boxOf : sw_M := (yX12_boxOf, cX12_boxOf, 2, (some .int))
abbrev mX12_looks : sw_M := (yX12_looks, cX12_looks, 3, none)
abbrev mX12_aboveOf : sw_M := (yX12_aboveOf, cX12_aboveOf, 7, (some .long))
abbrev mX12_belowOf : sw_M := (yX12_belowOf, cX12_belowOf, 6, (some .long))
abbrev mX12_isInBox : sw_M := (yX12_isInBox, cX12_isInBox, 3, (some .boolean))
abbrev mX12_hasMate : sw_M := (yX12_hasMate, cX12_hasMate, 4, (some .boolean))
abbrev mX12_hasForm : sw_M := (yX12_hasForm, cX12_hasForm, 5, (some .boolean))
abbrev mX12_gets : sw_M := (yX12_gets, cX12_gets, 5, none)
abbrev mX12_put : sw_M := (yX12_put, cX12_put, 5, (some .int))
abbrev mX12_sign : sw_M := (yX12_sign, cX12_sign, 3, (some .int))
abbrev mX12_powerOf : sw_M := (yX12_powerOf, cX12_powerOf, 3, (some .int))
abbrev mX12_value : sw_M := (yX12_value, cX12_value, 3, (some .long))
abbrev mX12_heightOf : sw_M := (yX12_heightOf, cX12_heightOf, 4, (some .int))
abbrev mX12_height : sw_M := (yX12_height, cX12_height, 2, (some .int))
abbrev mX12_isIn : sw_M := (yX12_isIn, cX12_isIn, 2, (some .int))
abbrev mX12_joins : sw_M := (yX12_joins, cX12_joins, 6, (some .int))
abbrev mX12_times : sw_M := (yX12_times, cX12_times, 4, (some .int))
abbrev mX12_over : sw_M := (yX12_over, cX12_over, 4, (some .int))
abbrev mX12_partner : sw_M := (yX12_partner, cX12_partner, 3, (some .int))
abbrev mX12_form : sw_M := (yX12_form, cX12_form, 4, (some .int))
abbrev mX12_forms : sw_M := (yX12_forms, cX12_forms, 6, (some .int))
abbrev mX12_looksFirst : sw_M := (yX12_looksFirst, cX12_looksFirst, 2, none)
abbrev mX12_looksOn : sw_M := (yX12_looksOn, cX12_looksOn, 2, (some .boolean))
abbrev mX12_isAnswer : sw_M := (yX12_isAnswer, cX12_isAnswer, 1, (some .boolean))
abbrev mX12_answerComes : sw_M := (yX12_answerComes, cX12_answerComes, 7, none)
abbrev mX12_layAnswers : sw_M := (yX12_layAnswers, cX12_layAnswers, 2, none)
abbrev mX12_answerBy : sw_M := (yX12_answerBy, cX12_answerBy, 6, (some .int))
abbrev mX12_looksAnswer : sw_M := (yX12_looksAnswer, cX12_looksAnswer, 3, none)
abbrev mX12_layGroups : sw_M := (yX12_layGroups, cX12_layGroups, 5, none)
abbrev mX12_groupNumber : sw_M := (yX12_groupNumber, cX12_groupNumber, 4, (some .int))
abbrev mX12_answers : sw_M := (yX12_answers, cX12_answers, 1, (some .int))
abbrev mX12_answer : sw_M := (yX12_answer, cX12_answer, 3, (some .long))
abbrev mX12_take : sw_M := (yX12_take, cX12_take, 3, (some .int))
abbrev mX12_which : sw_M := (yX12_which, cX12_which, 2, (some .int))
abbrev mX12_groups : sw_M := (yX12_groups, cX12_groups, 3, (some .int))
abbrev mX12_groupOf : sw_M := (yX12_groupOf, cX12_groupOf, 2, (some .int))
abbrev mX12_group : sw_M := (yX12_group, cX12_group, 7, (some .int))
abbrev mX12_draw : sw_M := (yX12_draw, cX12_draw, 2, (some .int))
abbrev mX12_lots : sw_M := (yX12_lots, cX12_lots, 6, (some .int))
abbrev mX12_isSieve : sw_M := (yX12_isSieve, cX12_isSieve, 1, (some .boolean))
abbrev mX12_forgets : sw_M := (yX12_forgets, cX12_forgets, 4, (some .int))
abbrev mX12_sieve : sw_M := (yX12_sieve, cX12_sieve, 4, (some .int))
abbrev mX12_sieveOf : sw_M := (yX12_sieveOf, cX12_sieveOf, 2, (some .int))
abbrev mX12_forget : sw_M := (yX12_forget, cX12_forget, 2, (some .int))
abbrev mX12_order : sw_M := (yX12_order, cX12_order, 5, (some .int))
abbrev mX12_reaches : sw_M := (yX12_reaches, cX12_reaches, 7, (some .int))
abbrev mX12_reach : sw_M := (yX12_reach, cX12_reach, 2, (some .int))
abbrev mX12_inverse : sw_M := (yX12_inverse, cX12_inverse, 3, (some .int))
abbrev mX12_layInverses : sw_M := (yX12_layInverses, cX12_layInverses, 3, none)
abbrev mX12_isPassing : sw_M := (yX12_isPassing, cX12_isPassing, 6, (some .boolean))
abbrev mX12_passes : sw_M := (yX12_passes, cX12_passes, 4, (some .int))
abbrev mX12_left : sw_M := (yX12_left, cX12_left, 6, (some .int))
abbrev mX12_feed : sw_M := (yX12_feed, cX12_feed, 2, (some .int))
abbrev mX12_wipe : sw_M := (yX12_wipe, cX12_wipe, 2, (some .int))
abbrev mX12_takes : sw_M := (yX12_takes, cX12_takes, 2, (some .boolean))
abbrev mX12_isHere : sw_M := (yX12_isHere, cX12_isHere, 3, (some .boolean))
abbrev mX12_readFactor : sw_M := (yX12_readFactor, cX12_readFactor, 4, (some .boolean))
abbrev mX12_readUnit : sw_M := (yX12_readUnit, cX12_readUnit, 2, (some .boolean))
abbrev mX12_read : sw_M := (yX12_read, cX12_read, 3, (some .int))
abbrev mX12_writes : sw_M := (yX12_writes, cX12_writes, 2, none)
abbrev mX12_writesPower : sw_M := (yX12_writesPower, cX12_writesPower, 3, none)
abbrev mX12_spelled : sw_M := (yX12_spelled, cX12_spelled, 5, (some .int))
abbrev mX12_isList : sw_M := (yX12_isList, cX12_isList, 1, (some .boolean))
abbrev mX12_list : sw_M := (yX12_list, cX12_list, 4, (some .int))
abbrev mX12_lay : sw_M := (yX12_lay, cX12_lay, 5, (some .int))
abbrev mX12_get : sw_M := (yX12_get, cX12_get, 3, (some .long))
abbrev mX12_film : sw_M := (yX12_film, cX12_film, 5, (some .int))
abbrev mX12_judge : sw_M := (yX12_judge, cX12_judge, 4, (some .int))
abbrev mX12_image : sw_M := (yX12_image, cX12_image, 2, (some .int))
abbrev mX12_undo : sw_M := (yX12_undo, cX12_undo, 2, (some .int))
abbrev mX12_count : sw_M := (yX12_count, cX12_count, 4, (some .int))
abbrev mJ9_floorMod_7cf53 : sw_M := (yJ9_floorMod_7cf53, cJ9_floorMod_7cf53, 3, (some .int))
abbrev mJ9_abs_0f7a4 : sw_M := (yJ9_abs_0f7a4, cJ9_abs_0f7a4, 1, (some .int))
abbrev mJ9_abs_067f4 : sw_M := (yJ9_abs_067f4, cJ9_abs_067f4, 2, (some .long))
abbrev mJ9_max_7cf53 : sw_M := (yJ9_max_7cf53, cJ9_max_7cf53, 2, (some .int))
abbrev mJ9_min_7cf53 : sw_M := (yJ9_min_7cf53, cJ9_min_7cf53, 2, (some .int))
abbrev mJ7_fill_d0a16 : sw_M := (yJ7_fill_d0a16, cJ7_fill_d0a16, 5, none)
abbrev mJ7_fill_53178 : sw_M := (yJ7_fill_53178, cJ7_fill_53178, 4, none)
theorem kc_X0_init : Cond.code yX0_init cX0_init 1 none ∈ sw_big := sw_big_in (List.mem_of_getElem? (i := 171) (by decide +kernel)) (by decide +kernel)
theorem ki_X0_init : Cond.instanceMethod yX0_init ∈ sw_big := sw_big_in (List.mem_of_getElem? (i := 170) (by decide +kernel)) (by decide +kernel)
theorem kn_RX0 : Cond.initialized RX0 ∈ sw_big := sw_big_in (List.mem_of_getElem? (i := 61) (by decide +kernel)) (by decide +kernel)
theorem kc_X0_has : Cond.code yX0_has cX0_has 2 (some .boolean) ∈ sw_big := sw_big_in (List.mem_of_getElem? (i := 641) (by decide +kernel)) (by decide +kernel)
theorem ki_X0_has : Cond.instanceMethod yX0_has ∈ sw_big := sw_big_in (List.mem_of_getElem? (i := 639) (by decide +kernel)) (by decide +kernel)
theorem kv_X0_has : Cond.selects RX0 yX0_has yX0_has ∈ sw_big := sw_big_in (List.mem_of_getElem? (i := 640) (by decide +kernel)) (by decide +kernel)
theorem kc_X0_told : Cond.code yX0_told cX0_told 3 (some .long) ∈ sw_big := sw_big_in (List.mem_of_getElem? (i := 637) (by decide +kernel)) (by decide +kernel)
theorem ki_X0_told : Cond.instanceMethod yX0_told ∈ sw_big := sw_big_in (List.mem_of_getElem? (i := 635) (by decide +kernel)) (by decide +kernel)
theorem kv_X0_told : Cond.selects RX0 yX0_told yX0_told ∈ sw_big := sw_big_in (List.mem_of_getElem? (i := 636) (by decide +kernel)) (by decide +kernel)
theorem kc_X0_fill : Cond.code yX0_fill cX0_fill 2 none ∈ sw_big := sw_big_in (List.mem_of_getElem? (i := 595) (by decide +kernel)) (by decide +kernel)
theorem ki_X0_fill : Cond.instanceMethod yX0_fill ∈ sw_big := sw_big_in (List.mem_of_getElem? (i := 593) (by decide +kernel)) (by decide +kernel)
theorem kv_X0_fill : Cond.selects RX0 yX0_fill yX0_fill ∈ sw_big := sw_big_in (List.mem_of_getElem? (i := 594) (by decide +kernel)) (by decide +kernel)
theorem kc_X0_spread : Cond.code yX0_spread cX0_spread 13 none ∈ sw_big := sw_big_in (List.mem_of_getElem? (i := 598) (by decide +kernel)) (by decide +kernel)
theorem ks_X0_spread : Cond.static yX0_spread ∈ sw_big := sw_big_in (List.mem_of_getElem? (i := 597) (by decide +kernel)) (by decide +kernel)
theorem kc_X0_tryGroupOf : Cond.code yX0_tryGroupOf cX0_tryGroupOf 7 none ∈ sw_big := sw_big_in (List.mem_of_getElem? (i := 602) (by decide +kernel)) (by decide +kernel)
theorem ki_X0_tryGroupOf : Cond.instanceMethod yX0_tryGroupOf ∈ sw_big := sw_big_in (List.mem_of_getElem? (i := 601) (by decide +kernel)) (by decide +kernel)
theorem kv_X0_tryGroupOf : Cond.selects RX0 yX0_tryGroupOf yX0_tryGroupOf ∈ sw_big := sw_big_in (List.mem_of_getElem? (i := 9) (by decide +kernel)) (by decide +kernel)
theorem kc_X0_insert : Cond.code yX0_insert cX0_insert 7 none ∈ sw_big := sw_big_in (List.mem_of_getElem? (i := 615) (by decide +kernel)) (by decide +kernel)
theorem ki_X0_insert : Cond.instanceMethod yX0_insert ∈ sw_big := sw_big_in (List.mem_of_getElem? (i := 614) (by decide +kernel)) (by decide +kernel)
theorem kv_X0_insert : Cond.selects RX0 yX0_insert yX0_insert ∈ sw_big := sw_big_in (List.mem_of_getElem? (i := 10) (by decide +kernel)) (by decide +kernel)
theorem kc_X0_placeFor : Cond.code yX0_placeFor cX0_placeFor 9 (some .int) ∈ sw_big := sw_big_in (List.mem_of_getElem? (i := 619) (by decide +kernel)) (by decide +kernel)
theorem ki_X0_placeFor : Cond.instanceMethod yX0_placeFor ∈ sw_big := sw_big_in (List.mem_of_getElem? (i := 618) (by decide +kernel)) (by decide +kernel)
theorem kv_X0_placeFor : Cond.selects RX0 yX0_placeFor yX0_placeFor ∈ sw_big := sw_big_in (List.mem_of_getElem? (i := 11) (by decide +kernel)) (by decide +kernel)
theorem kc_X0_isAt : Cond.code yX0_isAt cX0_isAt 6 (some .boolean) ∈ sw_big := sw_big_in (List.mem_of_getElem? (i := 623) (by decide +kernel)) (by decide +kernel)
theorem ki_X0_isAt : Cond.instanceMethod yX0_isAt ∈ sw_big := sw_big_in (List.mem_of_getElem? (i := 622) (by decide +kernel)) (by decide +kernel)
theorem kv_X0_isAt : Cond.selects RX0 yX0_isAt yX0_isAt ∈ sw_big := sw_big_in (List.mem_of_getElem? (i := 12) (by decide +kernel)) (by decide +kernel)
theorem kc_X0_numberOf : Cond.code yX0_numberOf cX0_numberOf 8 (some .int) ∈ sw_big := sw_big_in (List.mem_of_getElem? (i := 655) (by decide +kernel)) (by decide +kernel)
theorem ki_X0_numberOf : Cond.instanceMethod yX0_numberOf ∈ sw_big := sw_big_in (List.mem_of_getElem? (i := 653) (by decide +kernel)) (by decide +kernel)
theorem kv_X0_numberOf : Cond.selects RX0 yX0_numberOf yX0_numberOf ∈ sw_big := sw_big_in (List.mem_of_getElem? (i := 654) (by decide +kernel)) (by decide +kernel)
theorem kc_X0_numberGroups : Cond.code yX0_numberGroups cX0_numberGroups 4 none ∈ sw_big := sw_big_in (List.mem_of_getElem? (i := 628) (by decide +kernel)) (by decide +kernel)
theorem ki_X0_numberGroups : Cond.instanceMethod yX0_numberGroups ∈ sw_big := sw_big_in (List.mem_of_getElem? (i := 627) (by decide +kernel)) (by decide +kernel)
theorem kv_X0_numberGroups : Cond.selects RX0 yX0_numberGroups yX0_numberGroups ∈ sw_big := sw_big_in (List.mem_of_getElem? (i := 13) (by decide +kernel)) (by decide +kernel)
theorem kc_X0_sizeOfGroup : Cond.code yX0_sizeOfGroup cX0_sizeOfGroup 4 (some .int) ∈ sw_big := sw_big_in (List.mem_of_getElem? (i := 673) (by decide +kernel)) (by decide +kernel)
theorem ki_X0_sizeOfGroup : Cond.instanceMethod yX0_sizeOfGroup ∈ sw_big := sw_big_in (List.mem_of_getElem? (i := 671) (by decide +kernel)) (by decide +kernel)
theorem kv_X0_sizeOfGroup : Cond.selects RX0 yX0_sizeOfGroup yX0_sizeOfGroup ∈ sw_big := sw_big_in (List.mem_of_getElem? (i := 672) (by decide +kernel)) (by decide +kernel)
theorem kc_X0_firstOfGroup : Cond.code yX0_firstOfGroup cX0_firstOfGroup 3 (some .int) ∈ sw_big := sw_big_in (List.mem_of_getElem? (i := 677) (by decide +kernel)) (by decide +kernel)
theorem ki_X0_firstOfGroup : Cond.instanceMethod yX0_firstOfGroup ∈ sw_big := sw_big_in (List.mem_of_getElem? (i := 675) (by decide +kernel)) (by decide +kernel)
theorem kv_X0_firstOfGroup : Cond.selects RX0 yX0_firstOfGroup yX0_firstOfGroup ∈ sw_big := sw_big_in (List.mem_of_getElem? (i := 676) (by decide +kernel)) (by decide +kernel)
theorem kc_X1_init : Cond.code yX1_init cX1_init 1 none ∈ sw_big := sw_big_in (List.mem_of_getElem? (i := 90) (by decide +kernel)) (by decide +kernel)
theorem ki_X1_init : Cond.instanceMethod yX1_init ∈ sw_big := sw_big_in (List.mem_of_getElem? (i := 89) (by decide +kernel)) (by decide +kernel)
theorem kn_RX1 : Cond.initialized RX1 ∈ sw_big := sw_big_in (List.mem_of_getElem? (i := 58) (by decide +kernel)) (by decide +kernel)
theorem kc_X1_has : Cond.code yX1_has cX1_has 2 (some .boolean) ∈ sw_big := sw_big_in (List.mem_of_getElem? (i := 413) (by decide +kernel)) (by decide +kernel)
theorem ki_X1_has : Cond.instanceMethod yX1_has ∈ sw_big := sw_big_in (List.mem_of_getElem? (i := 411) (by decide +kernel)) (by decide +kernel)
theorem kv_X1_has : Cond.selects RX1 yX1_has yX1_has ∈ sw_big := sw_big_in (List.mem_of_getElem? (i := 412) (by decide +kernel)) (by decide +kernel)
theorem kc_X1_placeOf : Cond.code yX1_placeOf cX1_placeOf 3 (some .int) ∈ sw_big := sw_big_in (List.mem_of_getElem? (i := 377) (by decide +kernel)) (by decide +kernel)
theorem ki_X1_placeOf : Cond.instanceMethod yX1_placeOf ∈ sw_big := sw_big_in (List.mem_of_getElem? (i := 375) (by decide +kernel)) (by decide +kernel)
theorem kv_X1_placeOf : Cond.selects RX1 yX1_placeOf yX1_placeOf ∈ sw_big := sw_big_in (List.mem_of_getElem? (i := 376) (by decide +kernel)) (by decide +kernel)
theorem kc_X1_product : Cond.code yX1_product cX1_product 3 (some .int) ∈ sw_big := sw_big_in (List.mem_of_getElem? (i := 381) (by decide +kernel)) (by decide +kernel)
theorem ki_X1_product : Cond.instanceMethod yX1_product ∈ sw_big := sw_big_in (List.mem_of_getElem? (i := 379) (by decide +kernel)) (by decide +kernel)
theorem kv_X1_product : Cond.selects RX1 yX1_product yX1_product ∈ sw_big := sw_big_in (List.mem_of_getElem? (i := 380) (by decide +kernel)) (by decide +kernel)
theorem kc_X1_insert : Cond.code yX1_insert cX1_insert 4 (some .int) ∈ sw_big := sw_big_in (List.mem_of_getElem? (i := 389) (by decide +kernel)) (by decide +kernel)
theorem ki_X1_insert : Cond.instanceMethod yX1_insert ∈ sw_big := sw_big_in (List.mem_of_getElem? (i := 387) (by decide +kernel)) (by decide +kernel)
theorem kv_X1_insert : Cond.selects RX1 yX1_insert yX1_insert ∈ sw_big := sw_big_in (List.mem_of_getElem? (i := 388) (by decide +kernel)) (by decide +kernel)
theorem kc_X1_removeAt : Cond.code yX1_removeAt cX1_removeAt 3 none ∈ sw_big := sw_big_in (List.mem_of_getElem? (i := 421) (by decide +kernel)) (by decide +kernel)
theorem ki_X1_removeAt : Cond.instanceMethod yX1_removeAt ∈ sw_big := sw_big_in (List.mem_of_getElem? (i := 419) (by decide +kernel)) (by decide +kernel)
theorem kv_X1_removeAt : Cond.selects RX1 yX1_removeAt yX1_removeAt ∈ sw_big := sw_big_in (List.mem_of_getElem? (i := 420) (by decide +kernel)) (by decide +kernel)
theorem kc_X1_boxesHold : Cond.code yX1_boxesHold cX1_boxesHold 7 (some .boolean) ∈ sw_big := sw_big_in (List.mem_of_getElem? (i := 607) (by decide +kernel)) (by decide +kernel)
theorem ki_X1_boxesHold : Cond.instanceMethod yX1_boxesHold ∈ sw_big := sw_big_in (List.mem_of_getElem? (i := 605) (by decide +kernel)) (by decide +kernel)
theorem kv_X1_boxesHold : Cond.selects RX1 yX1_boxesHold yX1_boxesHold ∈ sw_big := sw_big_in (List.mem_of_getElem? (i := 606) (by decide +kernel)) (by decide +kernel)
theorem kc_X1_copy : Cond.code yX1_copy cX1_copy 2 none ∈ sw_big := sw_big_in (List.mem_of_getElem? (i := 892) (by decide +kernel)) (by decide +kernel)
theorem ki_X1_copy : Cond.instanceMethod yX1_copy ∈ sw_big := sw_big_in (List.mem_of_getElem? (i := 890) (by decide +kernel)) (by decide +kernel)
theorem kv_X1_copy : Cond.selects RX1 yX1_copy yX1_copy ∈ sw_big := sw_big_in (List.mem_of_getElem? (i := 891) (by decide +kernel)) (by decide +kernel)
theorem kc_X2_init : Cond.code yX2_init cX2_init 2 none ∈ sw_big := sw_big_in (List.mem_of_getElem? (i := 270) (by decide +kernel)) (by decide +kernel)
theorem ki_X2_init : Cond.instanceMethod yX2_init ∈ sw_big := sw_big_in (List.mem_of_getElem? (i := 269) (by decide +kernel)) (by decide +kernel)
theorem kn_RX2 : Cond.initialized RX2 ∈ sw_big := sw_big_in (List.mem_of_getElem? (i := 65) (by decide +kernel)) (by decide +kernel)
theorem kc_X2_add : Cond.code yX2_add cX2_add 2 (some .boolean) ∈ sw_big := sw_big_in (List.mem_of_getElem? (i := 790) (by decide +kernel)) (by decide +kernel)
theorem ki_X2_add : Cond.instanceMethod yX2_add ∈ sw_big := sw_big_in (List.mem_of_getElem? (i := 788) (by decide +kernel)) (by decide +kernel)
theorem kv_X2_add : Cond.selects RX2 yX2_add yX2_add ∈ sw_big := sw_big_in (List.mem_of_getElem? (i := 789) (by decide +kernel)) (by decide +kernel)
theorem kc_X2_at : Cond.code yX2_at cX2_at 2 (some .int) ∈ sw_big := sw_big_in (List.mem_of_getElem? (i := 811) (by decide +kernel)) (by decide +kernel)
theorem ki_X2_at : Cond.instanceMethod yX2_at ∈ sw_big := sw_big_in (List.mem_of_getElem? (i := 809) (by decide +kernel)) (by decide +kernel)
theorem kv_X2_at : Cond.selects RX2 yX2_at yX2_at ∈ sw_big := sw_big_in (List.mem_of_getElem? (i := 810) (by decide +kernel)) (by decide +kernel)
theorem kc_X2_clear : Cond.code yX2_clear cX2_clear 1 none ∈ sw_big := sw_big_in (List.mem_of_getElem? (i := 798) (by decide +kernel)) (by decide +kernel)
theorem ki_X2_clear : Cond.instanceMethod yX2_clear ∈ sw_big := sw_big_in (List.mem_of_getElem? (i := 796) (by decide +kernel)) (by decide +kernel)
theorem kv_X2_clear : Cond.selects RX2 yX2_clear yX2_clear ∈ sw_big := sw_big_in (List.mem_of_getElem? (i := 797) (by decide +kernel)) (by decide +kernel)
theorem kc_X3_init : Cond.code yX3_init cX3_init 2 none ∈ sw_big := sw_big_in (List.mem_of_getElem? (i := 84) (by decide +kernel)) (by decide +kernel)
theorem ki_X3_init : Cond.instanceMethod yX3_init ∈ sw_big := sw_big_in (List.mem_of_getElem? (i := 83) (by decide +kernel)) (by decide +kernel)
theorem kn_RX3 : Cond.initialized RX3 ∈ sw_big := sw_big_in (List.mem_of_getElem? (i := 57) (by decide +kernel)) (by decide +kernel)
theorem kc_X3_addPrime : Cond.code yX3_addPrime cX3_addPrime 7 none ∈ sw_big := sw_big_in (List.mem_of_getElem? (i := 385) (by decide +kernel)) (by decide +kernel)
theorem ki_X3_addPrime : Cond.instanceMethod yX3_addPrime ∈ sw_big := sw_big_in (List.mem_of_getElem? (i := 383) (by decide +kernel)) (by decide +kernel)
theorem kv_X3_addPrime : Cond.selects RX3 yX3_addPrime yX3_addPrime ∈ sw_big := sw_big_in (List.mem_of_getElem? (i := 384) (by decide +kernel)) (by decide +kernel)
theorem kc_X3_removePrime : Cond.code yX3_removePrime cX3_removePrime 6 none ∈ sw_big := sw_big_in (List.mem_of_getElem? (i := 417) (by decide +kernel)) (by decide +kernel)
theorem ki_X3_removePrime : Cond.instanceMethod yX3_removePrime ∈ sw_big := sw_big_in (List.mem_of_getElem? (i := 415) (by decide +kernel)) (by decide +kernel)
theorem kv_X3_removePrime : Cond.selects RX3 yX3_removePrime yX3_removePrime ∈ sw_big := sw_big_in (List.mem_of_getElem? (i := 416) (by decide +kernel)) (by decide +kernel)
theorem kc_X3_copy : Cond.code yX3_copy cX3_copy 3 none ∈ sw_big := sw_big_in (List.mem_of_getElem? (i := 888) (by decide +kernel)) (by decide +kernel)
theorem ki_X3_copy : Cond.instanceMethod yX3_copy ∈ sw_big := sw_big_in (List.mem_of_getElem? (i := 886) (by decide +kernel)) (by decide +kernel)
theorem kv_X3_copy : Cond.selects RX3 yX3_copy yX3_copy ∈ sw_big := sw_big_in (List.mem_of_getElem? (i := 887) (by decide +kernel)) (by decide +kernel)
theorem kc_X4_init : Cond.code yX4_init cX4_init 1 none ∈ sw_big := sw_big_in (List.mem_of_getElem? (i := 305) (by decide +kernel)) (by decide +kernel)
theorem ki_X4_init : Cond.instanceMethod yX4_init ∈ sw_big := sw_big_in (List.mem_of_getElem? (i := 304) (by decide +kernel)) (by decide +kernel)
theorem kn_RX4 : Cond.initialized RX4 ∈ sw_big := sw_big_in (List.mem_of_getElem? (i := 68) (by decide +kernel)) (by decide +kernel)
theorem kc_X4_start : Cond.code yX4_start cX4_start 3 none ∈ sw_big := sw_big_in (List.mem_of_getElem? (i := 852) (by decide +kernel)) (by decide +kernel)
theorem ki_X4_start : Cond.instanceMethod yX4_start ∈ sw_big := sw_big_in (List.mem_of_getElem? (i := 850) (by decide +kernel)) (by decide +kernel)
theorem kv_X4_start : Cond.selects RX4 yX4_start yX4_start ∈ sw_big := sw_big_in (List.mem_of_getElem? (i := 851) (by decide +kernel)) (by decide +kernel)
theorem kc_X4_isMissing : Cond.code yX4_isMissing cX4_isMissing 2 (some .boolean) ∈ sw_big := sw_big_in (List.mem_of_getElem? (i := 863) (by decide +kernel)) (by decide +kernel)
theorem ki_X4_isMissing : Cond.instanceMethod yX4_isMissing ∈ sw_big := sw_big_in (List.mem_of_getElem? (i := 861) (by decide +kernel)) (by decide +kernel)
theorem kv_X4_isMissing : Cond.selects RX4 yX4_isMissing yX4_isMissing ∈ sw_big := sw_big_in (List.mem_of_getElem? (i := 862) (by decide +kernel)) (by decide +kernel)
theorem kc_X4_has : Cond.code yX4_has cX4_has 3 (some .boolean) ∈ sw_big := sw_big_in (List.mem_of_getElem? (i := 867) (by decide +kernel)) (by decide +kernel)
theorem ki_X4_has : Cond.instanceMethod yX4_has ∈ sw_big := sw_big_in (List.mem_of_getElem? (i := 865) (by decide +kernel)) (by decide +kernel)
theorem kv_X4_has : Cond.selects RX4 yX4_has yX4_has ∈ sw_big := sw_big_in (List.mem_of_getElem? (i := 866) (by decide +kernel)) (by decide +kernel)
theorem kc_X4_howManyThere : Cond.code yX4_howManyThere cX4_howManyThere 6 (some .int) ∈ sw_big := sw_big_in (List.mem_of_getElem? (i := 911) (by decide +kernel)) (by decide +kernel)
theorem ki_X4_howManyThere : Cond.instanceMethod yX4_howManyThere ∈ sw_big := sw_big_in (List.mem_of_getElem? (i := 909) (by decide +kernel)) (by decide +kernel)
theorem kv_X4_howManyThere : Cond.selects RX4 yX4_howManyThere yX4_howManyThere ∈ sw_big := sw_big_in (List.mem_of_getElem? (i := 910) (by decide +kernel)) (by decide +kernel)
theorem kc_X5_init : Cond.code yX5_init cX5_init 1 none ∈ sw_big := sw_big_in (List.mem_of_getElem? (i := 232) (by decide +kernel)) (by decide +kernel)
theorem ki_X5_init : Cond.instanceMethod yX5_init ∈ sw_big := sw_big_in (List.mem_of_getElem? (i := 231) (by decide +kernel)) (by decide +kernel)
theorem kn_RX5 : Cond.initialized RX5 ∈ sw_big := sw_big_in (List.mem_of_getElem? (i := 64) (by decide +kernel)) (by decide +kernel)
theorem kc_X5_fill : Cond.code yX5_fill cX5_fill 5 none ∈ sw_big := sw_big_in (List.mem_of_getElem? (i := 733) (by decide +kernel)) (by decide +kernel)
theorem ki_X5_fill : Cond.instanceMethod yX5_fill ∈ sw_big := sw_big_in (List.mem_of_getElem? (i := 731) (by decide +kernel)) (by decide +kernel)
theorem kv_X5_fill : Cond.selects RX5 yX5_fill yX5_fill ∈ sw_big := sw_big_in (List.mem_of_getElem? (i := 732) (by decide +kernel)) (by decide +kernel)
theorem kc_X5_note : Cond.code yX5_note cX5_note 2 none ∈ sw_big := sw_big_in (List.mem_of_getElem? (i := 741) (by decide +kernel)) (by decide +kernel)
theorem ki_X5_note : Cond.instanceMethod yX5_note ∈ sw_big := sw_big_in (List.mem_of_getElem? (i := 740) (by decide +kernel)) (by decide +kernel)
theorem kv_X5_note : Cond.selects RX5 yX5_note yX5_note ∈ sw_big := sw_big_in (List.mem_of_getElem? (i := 16) (by decide +kernel)) (by decide +kernel)
theorem kc_X5_residueOf : Cond.code yX5_residueOf cX5_residueOf 5 (some .int) ∈ sw_big := sw_big_in (List.mem_of_getElem? (i := 749) (by decide +kernel)) (by decide +kernel)
theorem ki_X5_residueOf : Cond.instanceMethod yX5_residueOf ∈ sw_big := sw_big_in (List.mem_of_getElem? (i := 747) (by decide +kernel)) (by decide +kernel)
theorem kv_X5_residueOf : Cond.selects RX5 yX5_residueOf yX5_residueOf ∈ sw_big := sw_big_in (List.mem_of_getElem? (i := 748) (by decide +kernel)) (by decide +kernel)
theorem kc_X5_powerOfPrime : Cond.code yX5_powerOfPrime cX5_powerOfPrime 6 (some .int) ∈ sw_big := sw_big_in (List.mem_of_getElem? (i := 753) (by decide +kernel)) (by decide +kernel)
theorem ki_X5_powerOfPrime : Cond.instanceMethod yX5_powerOfPrime ∈ sw_big := sw_big_in (List.mem_of_getElem? (i := 751) (by decide +kernel)) (by decide +kernel)
theorem kv_X5_powerOfPrime : Cond.selects RX5 yX5_powerOfPrime yX5_powerOfPrime ∈ sw_big := sw_big_in (List.mem_of_getElem? (i := 752) (by decide +kernel)) (by decide +kernel)
theorem kc_X5_letsPass : Cond.code yX5_letsPass cX5_letsPass 2 (some .boolean) ∈ sw_big := sw_big_in (List.mem_of_getElem? (i := 760) (by decide +kernel)) (by decide +kernel)
theorem ki_X5_letsPass : Cond.instanceMethod yX5_letsPass ∈ sw_big := sw_big_in (List.mem_of_getElem? (i := 758) (by decide +kernel)) (by decide +kernel)
theorem kv_X5_letsPass : Cond.selects RX5 yX5_letsPass yX5_letsPass ∈ sw_big := sw_big_in (List.mem_of_getElem? (i := 759) (by decide +kernel)) (by decide +kernel)
theorem kc_X6_init : Cond.code yX6_init cX6_init 1 none ∈ sw_big := sw_big_in (List.mem_of_getElem? (i := 288) (by decide +kernel)) (by decide +kernel)
theorem ki_X6_init : Cond.instanceMethod yX6_init ∈ sw_big := sw_big_in (List.mem_of_getElem? (i := 287) (by decide +kernel)) (by decide +kernel)
theorem kn_RX6 : Cond.initialized RX6 ∈ sw_big := sw_big_in (List.mem_of_getElem? (i := 67) (by decide +kernel)) (by decide +kernel)
theorem kc_X6_scan : Cond.code yX6_scan cX6_scan 4 (some .boolean) ∈ sw_big := sw_big_in (List.mem_of_getElem? (i := 806) (by decide +kernel)) (by decide +kernel)
theorem ki_X6_scan : Cond.instanceMethod yX6_scan ∈ sw_big := sw_big_in (List.mem_of_getElem? (i := 804) (by decide +kernel)) (by decide +kernel)
theorem kv_X6_scan : Cond.selects RX6 yX6_scan yX6_scan ∈ sw_big := sw_big_in (List.mem_of_getElem? (i := 805) (by decide +kernel)) (by decide +kernel)
theorem kc_X6_scanFactor : Cond.code yX6_scanFactor cX6_scanFactor 4 (some .boolean) ∈ sw_big := sw_big_in (List.mem_of_getElem? (i := 818) (by decide +kernel)) (by decide +kernel)
theorem ki_X6_scanFactor : Cond.instanceMethod yX6_scanFactor ∈ sw_big := sw_big_in (List.mem_of_getElem? (i := 817) (by decide +kernel)) (by decide +kernel)
theorem kv_X6_scanFactor : Cond.selects RX6 yX6_scanFactor yX6_scanFactor ∈ sw_big := sw_big_in (List.mem_of_getElem? (i := 19) (by decide +kernel)) (by decide +kernel)
theorem kc_X6_scanNumber : Cond.code yX6_scanNumber cX6_scanNumber 4 (some .int) ∈ sw_big := sw_big_in (List.mem_of_getElem? (i := 822) (by decide +kernel)) (by decide +kernel)
theorem ki_X6_scanNumber : Cond.instanceMethod yX6_scanNumber ∈ sw_big := sw_big_in (List.mem_of_getElem? (i := 821) (by decide +kernel)) (by decide +kernel)
theorem kv_X6_scanNumber : Cond.selects RX6 yX6_scanNumber yX6_scanNumber ∈ sw_big := sw_big_in (List.mem_of_getElem? (i := 20) (by decide +kernel)) (by decide +kernel)
theorem kc_X6_scanPower : Cond.code yX6_scanPower cX6_scanPower 5 (some .boolean) ∈ sw_big := sw_big_in (List.mem_of_getElem? (i := 827) (by decide +kernel)) (by decide +kernel)
theorem ki_X6_scanPower : Cond.instanceMethod yX6_scanPower ∈ sw_big := sw_big_in (List.mem_of_getElem? (i := 826) (by decide +kernel)) (by decide +kernel)
theorem kv_X6_scanPower : Cond.selects RX6 yX6_scanPower yX6_scanPower ∈ sw_big := sw_big_in (List.mem_of_getElem? (i := 21) (by decide +kernel)) (by decide +kernel)
theorem kc_X6_isFigure : Cond.code yX6_isFigure cX6_isFigure 1 (some .boolean) ∈ sw_big := sw_big_in (List.mem_of_getElem? (i := 814) (by decide +kernel)) (by decide +kernel)
theorem ks_X6_isFigure : Cond.static yX6_isFigure ∈ sw_big := sw_big_in (List.mem_of_getElem? (i := 813) (by decide +kernel)) (by decide +kernel)
theorem kc_X7_init : Cond.code yX7_init cX7_init 1 none ∈ sw_big := sw_big_in (List.mem_of_getElem? (i := 123) (by decide +kernel)) (by decide +kernel)
theorem ki_X7_init : Cond.instanceMethod yX7_init ∈ sw_big := sw_big_in (List.mem_of_getElem? (i := 122) (by decide +kernel)) (by decide +kernel)
theorem kn_RX7 : Cond.initialized RX7 ∈ sw_big := sw_big_in (List.mem_of_getElem? (i := 59) (by decide +kernel)) (by decide +kernel)
theorem kc_X7_ask : Cond.code yX7_ask cX7_ask 2 none ∈ sw_big := sw_big_in (List.mem_of_getElem? (i := 708) (by decide +kernel)) (by decide +kernel)
theorem ki_X7_ask : Cond.instanceMethod yX7_ask ∈ sw_big := sw_big_in (List.mem_of_getElem? (i := 706) (by decide +kernel)) (by decide +kernel)
theorem kv_X7_ask : Cond.selects RX7 yX7_ask yX7_ask ∈ sw_big := sw_big_in (List.mem_of_getElem? (i := 707) (by decide +kernel)) (by decide +kernel)
theorem kc_X7_remove : Cond.code yX7_remove cX7_remove 3 (some .boolean) ∈ sw_big := sw_big_in (List.mem_of_getElem? (i := 397) (by decide +kernel)) (by decide +kernel)
theorem ki_X7_remove : Cond.instanceMethod yX7_remove ∈ sw_big := sw_big_in (List.mem_of_getElem? (i := 395) (by decide +kernel)) (by decide +kernel)
theorem kv_X7_remove : Cond.selects RX7 yX7_remove yX7_remove ∈ sw_big := sw_big_in (List.mem_of_getElem? (i := 396) (by decide +kernel)) (by decide +kernel)
theorem kc_X7_removeAt : Cond.code yX7_removeAt cX7_removeAt 3 none ∈ sw_big := sw_big_in (List.mem_of_getElem? (i := 401) (by decide +kernel)) (by decide +kernel)
theorem ki_X7_removeAt : Cond.instanceMethod yX7_removeAt ∈ sw_big := sw_big_in (List.mem_of_getElem? (i := 400) (by decide +kernel)) (by decide +kernel)
theorem kv_X7_removeAt : Cond.selects RX7 yX7_removeAt yX7_removeAt ∈ sw_big := sw_big_in (List.mem_of_getElem? (i := 0) (by decide +kernel)) (by decide +kernel)
theorem kc_X7_copy : Cond.code yX7_copy cX7_copy 2 none ∈ sw_big := sw_big_in (List.mem_of_getElem? (i := 897) (by decide +kernel)) (by decide +kernel)
theorem ki_X7_copy : Cond.instanceMethod yX7_copy ∈ sw_big := sw_big_in (List.mem_of_getElem? (i := 895) (by decide +kernel)) (by decide +kernel)
theorem kv_X7_copy : Cond.selects RX7 yX7_copy yX7_copy ∈ sw_big := sw_big_in (List.mem_of_getElem? (i := 896) (by decide +kernel)) (by decide +kernel)
theorem kc_X8_init : Cond.code yX8_init cX8_init 2 none ∈ sw_big := sw_big_in (List.mem_of_getElem? (i := 223) (by decide +kernel)) (by decide +kernel)
theorem ki_X8_init : Cond.instanceMethod yX8_init ∈ sw_big := sw_big_in (List.mem_of_getElem? (i := 222) (by decide +kernel)) (by decide +kernel)
theorem kn_RX8 : Cond.initialized RX8 ∈ sw_big := sw_big_in (List.mem_of_getElem? (i := 63) (by decide +kernel)) (by decide +kernel)
theorem kc_X8_sift : Cond.code yX8_sift cX8_sift 4 (some .int) ∈ sw_big := sw_big_in (List.mem_of_getElem? (i := 768) (by decide +kernel)) (by decide +kernel)
theorem ki_X8_sift : Cond.instanceMethod yX8_sift ∈ sw_big := sw_big_in (List.mem_of_getElem? (i := 766) (by decide +kernel)) (by decide +kernel)
theorem kv_X8_sift : Cond.selects RX8 yX8_sift yX8_sift ∈ sw_big := sw_big_in (List.mem_of_getElem? (i := 767) (by decide +kernel)) (by decide +kernel)
theorem kc_X8_passing : Cond.code yX8_passing cX8_passing 10 (some .int) ∈ sw_big := sw_big_in (List.mem_of_getElem? (i := 772) (by decide +kernel)) (by decide +kernel)
theorem ks_X8_passing : Cond.static yX8_passing ∈ sw_big := sw_big_in (List.mem_of_getElem? (i := 771) (by decide +kernel)) (by decide +kernel)
theorem kc_X8_passingSigns : Cond.code yX8_passingSigns cX8_passingSigns 3 (some .int) ∈ sw_big := sw_big_in (List.mem_of_getElem? (i := 776) (by decide +kernel)) (by decide +kernel)
theorem ki_X8_passingSigns : Cond.instanceMethod yX8_passingSigns ∈ sw_big := sw_big_in (List.mem_of_getElem? (i := 775) (by decide +kernel)) (by decide +kernel)
theorem kv_X8_passingSigns : Cond.selects RX8 yX8_passingSigns yX8_passingSigns ∈ sw_big := sw_big_in (List.mem_of_getElem? (i := 17) (by decide +kernel)) (by decide +kernel)
theorem kc_X8_isCaught : Cond.code yX8_isCaught cX8_isCaught 4 (some .boolean) ∈ sw_big := sw_big_in (List.mem_of_getElem? (i := 780) (by decide +kernel)) (by decide +kernel)
theorem ki_X8_isCaught : Cond.instanceMethod yX8_isCaught ∈ sw_big := sw_big_in (List.mem_of_getElem? (i := 779) (by decide +kernel)) (by decide +kernel)
theorem kv_X8_isCaught : Cond.selects RX8 yX8_isCaught yX8_isCaught ∈ sw_big := sw_big_in (List.mem_of_getElem? (i := 18) (by decide +kernel)) (by decide +kernel)
theorem kc_X9_init : Cond.code yX9_init cX9_init 1 none ∈ sw_big := sw_big_in (List.mem_of_getElem? (i := 177) (by decide +kernel)) (by decide +kernel)
theorem ki_X9_init : Cond.instanceMethod yX9_init ∈ sw_big := sw_big_in (List.mem_of_getElem? (i := 176) (by decide +kernel)) (by decide +kernel)
theorem kn_RX9 : Cond.initialized RX9 ∈ sw_big := sw_big_in (List.mem_of_getElem? (i := 62) (by decide +kernel)) (by decide +kernel)
theorem kc_X9_set : Cond.code yX9_set cX9_set 5 none ∈ sw_big := sw_big_in (List.mem_of_getElem? (i := 533) (by decide +kernel)) (by decide +kernel)
theorem ki_X9_set : Cond.instanceMethod yX9_set ∈ sw_big := sw_big_in (List.mem_of_getElem? (i := 531) (by decide +kernel)) (by decide +kernel)
theorem kv_X9_set : Cond.selects RX9 yX9_set yX9_set ∈ sw_big := sw_big_in (List.mem_of_getElem? (i := 532) (by decide +kernel)) (by decide +kernel)
theorem kc_X9_formAbove : Cond.code yX9_formAbove cX9_formAbove 2 (some .long) ∈ sw_big := sw_big_in (List.mem_of_getElem? (i := 556) (by decide +kernel)) (by decide +kernel)
theorem ki_X9_formAbove : Cond.instanceMethod yX9_formAbove ∈ sw_big := sw_big_in (List.mem_of_getElem? (i := 554) (by decide +kernel)) (by decide +kernel)
theorem kv_X9_formAbove : Cond.selects RX9 yX9_formAbove yX9_formAbove ∈ sw_big := sw_big_in (List.mem_of_getElem? (i := 555) (by decide +kernel)) (by decide +kernel)
theorem kc_X9_formBelow : Cond.code yX9_formBelow cX9_formBelow 2 (some .long) ∈ sw_big := sw_big_in (List.mem_of_getElem? (i := 568) (by decide +kernel)) (by decide +kernel)
theorem ki_X9_formBelow : Cond.instanceMethod yX9_formBelow ∈ sw_big := sw_big_in (List.mem_of_getElem? (i := 566) (by decide +kernel)) (by decide +kernel)
theorem kv_X9_formBelow : Cond.selects RX9 yX9_formBelow yX9_formBelow ∈ sw_big := sw_big_in (List.mem_of_getElem? (i := 567) (by decide +kernel)) (by decide +kernel)
theorem kc_X9_rawAbove : Cond.code yX9_rawAbove cX9_rawAbove 2 (some .long) ∈ sw_big := sw_big_in (List.mem_of_getElem? (i := 564) (by decide +kernel)) (by decide +kernel)
theorem ki_X9_rawAbove : Cond.instanceMethod yX9_rawAbove ∈ sw_big := sw_big_in (List.mem_of_getElem? (i := 563) (by decide +kernel)) (by decide +kernel)
theorem kv_X9_rawAbove : Cond.selects RX9 yX9_rawAbove yX9_rawAbove ∈ sw_big := sw_big_in (List.mem_of_getElem? (i := 6) (by decide +kernel)) (by decide +kernel)
theorem kc_X9_rawBelow : Cond.code yX9_rawBelow cX9_rawBelow 2 (some .long) ∈ sw_big := sw_big_in (List.mem_of_getElem? (i := 560) (by decide +kernel)) (by decide +kernel)
theorem ki_X9_rawBelow : Cond.instanceMethod yX9_rawBelow ∈ sw_big := sw_big_in (List.mem_of_getElem? (i := 559) (by decide +kernel)) (by decide +kernel)
theorem kv_X9_rawBelow : Cond.selects RX9 yX9_rawBelow yX9_rawBelow ∈ sw_big := sw_big_in (List.mem_of_getElem? (i := 5) (by decide +kernel)) (by decide +kernel)
theorem kc_X9_unlikeForms : Cond.code yX9_unlikeForms cX9_unlikeForms 3 (some .int) ∈ sw_big := sw_big_in (List.mem_of_getElem? (i := 577) (by decide +kernel)) (by decide +kernel)
theorem ki_X9_unlikeForms : Cond.instanceMethod yX9_unlikeForms ∈ sw_big := sw_big_in (List.mem_of_getElem? (i := 575) (by decide +kernel)) (by decide +kernel)
theorem kv_X9_unlikeForms : Cond.selects RX9 yX9_unlikeForms yX9_unlikeForms ∈ sw_big := sw_big_in (List.mem_of_getElem? (i := 576) (by decide +kernel)) (by decide +kernel)
theorem kc_X9_isLikeAnEarlierOne : Cond.code yX9_isLikeAnEarlierOne cX9_isLikeAnEarlierOne 3 (some .boolean) ∈ sw_big := sw_big_in (List.mem_of_getElem? (i := 581) (by decide +kernel)) (by decide +kernel)
theorem ki_X9_isLikeAnEarlierOne : Cond.instanceMethod yX9_isLikeAnEarlierOne ∈ sw_big := sw_big_in (List.mem_of_getElem? (i := 580) (by decide +kernel)) (by decide +kernel)
theorem kv_X9_isLikeAnEarlierOne : Cond.selects RX9 yX9_isLikeAnEarlierOne yX9_isLikeAnEarlierOne ∈ sw_big := sw_big_in (List.mem_of_getElem? (i := 7) (by decide +kernel)) (by decide +kernel)
theorem kc_X10_init : Cond.code yX10_init cX10_init 1 none ∈ sw_big := sw_big_in (List.mem_of_getElem? (i := 139) (by decide +kernel)) (by decide +kernel)
theorem ki_X10_init : Cond.instanceMethod yX10_init ∈ sw_big := sw_big_in (List.mem_of_getElem? (i := 138) (by decide +kernel)) (by decide +kernel)
theorem kn_RX10 : Cond.initialized RX10 ∈ sw_big := sw_big_in (List.mem_of_getElem? (i := 60) (by decide +kernel)) (by decide +kernel)
theorem kc_X10_setOne : Cond.code yX10_setOne cX10_setOne 1 none ∈ sw_big := sw_big_in (List.mem_of_getElem? (i := 541) (by decide +kernel)) (by decide +kernel)
theorem ki_X10_setOne : Cond.instanceMethod yX10_setOne ∈ sw_big := sw_big_in (List.mem_of_getElem? (i := 539) (by decide +kernel)) (by decide +kernel)
theorem kv_X10_setOne : Cond.selects RX10 yX10_setOne yX10_setOne ∈ sw_big := sw_big_in (List.mem_of_getElem? (i := 540) (by decide +kernel)) (by decide +kernel)
theorem kc_X10_copy : Cond.code yX10_copy cX10_copy 2 none ∈ sw_big := sw_big_in (List.mem_of_getElem? (i := 514) (by decide +kernel)) (by decide +kernel)
theorem ki_X10_copy : Cond.instanceMethod yX10_copy ∈ sw_big := sw_big_in (List.mem_of_getElem? (i := 512) (by decide +kernel)) (by decide +kernel)
theorem kv_X10_copy : Cond.selects RX10 yX10_copy yX10_copy ∈ sw_big := sw_big_in (List.mem_of_getElem? (i := 513) (by decide +kernel)) (by decide +kernel)
theorem kc_X10_insertPower : Cond.code yX10_insertPower cX10_insertPower 3 none ∈ sw_big := sw_big_in (List.mem_of_getElem? (i := 393) (by decide +kernel)) (by decide +kernel)
theorem ki_X10_insertPower : Cond.instanceMethod yX10_insertPower ∈ sw_big := sw_big_in (List.mem_of_getElem? (i := 391) (by decide +kernel)) (by decide +kernel)
theorem kv_X10_insertPower : Cond.selects RX10 yX10_insertPower yX10_insertPower ∈ sw_big := sw_big_in (List.mem_of_getElem? (i := 392) (by decide +kernel)) (by decide +kernel)
theorem kc_X10_removePower : Cond.code yX10_removePower cX10_removePower 3 none ∈ sw_big := sw_big_in (List.mem_of_getElem? (i := 426) (by decide +kernel)) (by decide +kernel)
theorem ki_X10_removePower : Cond.instanceMethod yX10_removePower ∈ sw_big := sw_big_in (List.mem_of_getElem? (i := 424) (by decide +kernel)) (by decide +kernel)
theorem kv_X10_removePower : Cond.selects RX10 yX10_removePower yX10_removePower ∈ sw_big := sw_big_in (List.mem_of_getElem? (i := 425) (by decide +kernel)) (by decide +kernel)
theorem kc_X10_above : Cond.code yX10_above cX10_above 2 (some .long) ∈ sw_big := sw_big_in (List.mem_of_getElem? (i := 466) (by decide +kernel)) (by decide +kernel)
theorem ki_X10_above : Cond.instanceMethod yX10_above ∈ sw_big := sw_big_in (List.mem_of_getElem? (i := 464) (by decide +kernel)) (by decide +kernel)
theorem kv_X10_above : Cond.selects RX10 yX10_above yX10_above ∈ sw_big := sw_big_in (List.mem_of_getElem? (i := 465) (by decide +kernel)) (by decide +kernel)
theorem kc_X10_below : Cond.code yX10_below cX10_below 2 (some .long) ∈ sw_big := sw_big_in (List.mem_of_getElem? (i := 474) (by decide +kernel)) (by decide +kernel)
theorem ki_X10_below : Cond.instanceMethod yX10_below ∈ sw_big := sw_big_in (List.mem_of_getElem? (i := 472) (by decide +kernel)) (by decide +kernel)
theorem kv_X10_below : Cond.selects RX10 yX10_below yX10_below ∈ sw_big := sw_big_in (List.mem_of_getElem? (i := 473) (by decide +kernel)) (by decide +kernel)
theorem kc_X10_oneSide : Cond.code yX10_oneSide cX10_oneSide 8 (some .long) ∈ sw_big := sw_big_in (List.mem_of_getElem? (i := 470) (by decide +kernel)) (by decide +kernel)
theorem ki_X10_oneSide : Cond.instanceMethod yX10_oneSide ∈ sw_big := sw_big_in (List.mem_of_getElem? (i := 469) (by decide +kernel)) (by decide +kernel)
theorem kv_X10_oneSide : Cond.selects RX10 yX10_oneSide yX10_oneSide ∈ sw_big := sw_big_in (List.mem_of_getElem? (i := 2) (by decide +kernel)) (by decide +kernel)
theorem kc_X10_greatestPower : Cond.code yX10_greatestPower cX10_greatestPower 6 (some .int) ∈ sw_big := sw_big_in (List.mem_of_getElem? (i := 482) (by decide +kernel)) (by decide +kernel)
theorem ki_X10_greatestPower : Cond.instanceMethod yX10_greatestPower ∈ sw_big := sw_big_in (List.mem_of_getElem? (i := 480) (by decide +kernel)) (by decide +kernel)
theorem kv_X10_greatestPower : Cond.selects RX10 yX10_greatestPower yX10_greatestPower ∈ sw_big := sw_big_in (List.mem_of_getElem? (i := 481) (by decide +kernel)) (by decide +kernel)
theorem kc_X10_isInRange : Cond.code yX10_isInRange cX10_isInRange 1 (some .boolean) ∈ sw_big := sw_big_in (List.mem_of_getElem? (i := 509) (by decide +kernel)) (by decide +kernel)
theorem ki_X10_isInRange : Cond.instanceMethod yX10_isInRange ∈ sw_big := sw_big_in (List.mem_of_getElem? (i := 507) (by decide +kernel)) (by decide +kernel)
theorem kv_X10_isInRange : Cond.selects RX10 yX10_isInRange yX10_isInRange ∈ sw_big := sw_big_in (List.mem_of_getElem? (i := 508) (by decide +kernel)) (by decide +kernel)
theorem kc_X10_isWithin : Cond.code yX10_isWithin cX10_isWithin 3 (some .boolean) ∈ sw_big := sw_big_in (List.mem_of_getElem? (i := 493) (by decide +kernel)) (by decide +kernel)
theorem ki_X10_isWithin : Cond.instanceMethod yX10_isWithin ∈ sw_big := sw_big_in (List.mem_of_getElem? (i := 491) (by decide +kernel)) (by decide +kernel)
theorem kv_X10_isWithin : Cond.selects RX10 yX10_isWithin yX10_isWithin ∈ sw_big := sw_big_in (List.mem_of_getElem? (i := 492) (by decide +kernel)) (by decide +kernel)
theorem kc_X10_setProduct : Cond.code yX10_setProduct cX10_setProduct 5 none ∈ sw_big := sw_big_in (List.mem_of_getElem? (i := 505) (by decide +kernel)) (by decide +kernel)
theorem ki_X10_setProduct : Cond.instanceMethod yX10_setProduct ∈ sw_big := sw_big_in (List.mem_of_getElem? (i := 503) (by decide +kernel)) (by decide +kernel)
theorem kv_X10_setProduct : Cond.selects RX10 yX10_setProduct yX10_setProduct ∈ sw_big := sw_big_in (List.mem_of_getElem? (i := 504) (by decide +kernel)) (by decide +kernel)
theorem kc_X10_setFraction : Cond.code yX10_setFraction cX10_setFraction 13 (some .boolean) ∈ sw_big := sw_big_in (List.mem_of_getElem? (i := 537) (by decide +kernel)) (by decide +kernel)
theorem ki_X10_setFraction : Cond.instanceMethod yX10_setFraction ∈ sw_big := sw_big_in (List.mem_of_getElem? (i := 535) (by decide +kernel)) (by decide +kernel)
theorem kv_X10_setFraction : Cond.selects RX10 yX10_setFraction yX10_setFraction ∈ sw_big := sw_big_in (List.mem_of_getElem? (i := 536) (by decide +kernel)) (by decide +kernel)
theorem kc_X10_spell : Cond.code yX10_spell cX10_spell 5 none ∈ sw_big := sw_big_in (List.mem_of_getElem? (i := 835) (by decide +kernel)) (by decide +kernel)
theorem ki_X10_spell : Cond.instanceMethod yX10_spell ∈ sw_big := sw_big_in (List.mem_of_getElem? (i := 833) (by decide +kernel)) (by decide +kernel)
theorem kv_X10_spell : Cond.selects RX10 yX10_spell yX10_spell ∈ sw_big := sw_big_in (List.mem_of_getElem? (i := 834) (by decide +kernel)) (by decide +kernel)
theorem kc_X10_spellFactor : Cond.code yX10_spellFactor cX10_spellFactor 3 none ∈ sw_big := sw_big_in (List.mem_of_getElem? (i := 840) (by decide +kernel)) (by decide +kernel)
theorem ks_X10_spellFactor : Cond.static yX10_spellFactor ∈ sw_big := sw_big_in (List.mem_of_getElem? (i := 839) (by decide +kernel)) (by decide +kernel)
theorem kc_X11_init : Cond.code yX11_init cX11_init 1 none ∈ sw_big := sw_big_in (List.mem_of_getElem? (i := 76) (by decide +kernel)) (by decide +kernel)
theorem ki_X11_init : Cond.instanceMethod yX11_init ∈ sw_big := sw_big_in (List.mem_of_getElem? (i := 75) (by decide +kernel)) (by decide +kernel)
theorem kn_RX11 : Cond.initialized RX11 ∈ sw_big := sw_big_in (List.mem_of_getElem? (i := 56) (by decide +kernel)) (by decide +kernel)
theorem kc_X11_prime : Cond.code yX11_prime cX11_prime 3 (some .int) ∈ sw_big := sw_big_in (List.mem_of_getElem? (i := 370) (by decide +kernel)) (by decide +kernel)
theorem ki_X11_prime : Cond.instanceMethod yX11_prime ∈ sw_big := sw_big_in (List.mem_of_getElem? (i := 368) (by decide +kernel)) (by decide +kernel)
theorem kv_X11_prime : Cond.selects RX11 yX11_prime yX11_prime ∈ sw_big := sw_big_in (List.mem_of_getElem? (i := 369) (by decide +kernel)) (by decide +kernel)
theorem kc_X11_drop : Cond.code yX11_drop cX11_drop 2 (some .int) ∈ sw_big := sw_big_in (List.mem_of_getElem? (i := 409) (by decide +kernel)) (by decide +kernel)
theorem ki_X11_drop : Cond.instanceMethod yX11_drop ∈ sw_big := sw_big_in (List.mem_of_getElem? (i := 407) (by decide +kernel)) (by decide +kernel)
theorem kv_X11_drop : Cond.selects RX11 yX11_drop yX11_drop ∈ sw_big := sw_big_in (List.mem_of_getElem? (i := 408) (by decide +kernel)) (by decide +kernel)
theorem kc_X11_primeOf : Cond.code yX11_primeOf cX11_primeOf 2 (some .int) ∈ sw_big := sw_big_in (List.mem_of_getElem? (i := 431) (by decide +kernel)) (by decide +kernel)
theorem ki_X11_primeOf : Cond.instanceMethod yX11_primeOf ∈ sw_big := sw_big_in (List.mem_of_getElem? (i := 429) (by decide +kernel)) (by decide +kernel)
theorem kv_X11_primeOf : Cond.selects RX11 yX11_primeOf yX11_primeOf ∈ sw_big := sw_big_in (List.mem_of_getElem? (i := 430) (by decide +kernel)) (by decide +kernel)
theorem kc_X11_box : Cond.code yX11_box cX11_box 4 (some .int) ∈ sw_big := sw_big_in (List.mem_of_getElem? (i := 435) (by decide +kernel)) (by decide +kernel)
theorem ki_X11_box : Cond.instanceMethod yX11_box ∈ sw_big := sw_big_in (List.mem_of_getElem? (i := 433) (by decide +kernel)) (by decide +kernel)
theorem kv_X11_box : Cond.selects RX11 yX11_box yX11_box ∈ sw_big := sw_big_in (List.mem_of_getElem? (i := 434) (by decide +kernel)) (by decide +kernel)
theorem kc_X11_boxOf : Cond.code yX11_boxOf cX11_boxOf 2 (some .int) ∈ sw_big := sw_big_in (List.mem_of_getElem? (i := 439) (by decide +kernel)) (by decide +kernel)
theorem ki_X11_boxOf : Cond.instanceMethod yX11_boxOf ∈ sw_big := sw_big_in (List.mem_of_getElem? (i := 437) (by decide +kernel)) (by decide +kernel)
theorem kv_X11_boxOf : Cond.selects RX11 yX11_boxOf yX11_boxOf ∈ sw_big := sw_big_in (List.mem_of_getElem? (i := 438) (by decide +kernel)) (by decide +kernel)
theorem kc_X11_put : Cond.code yX11_put cX11_put 6 (some .int) ∈ sw_big := sw_big_in (List.mem_of_getElem? (i := 443) (by decide +kernel)) (by decide +kernel)
theorem ki_X11_put : Cond.instanceMethod yX11_put ∈ sw_big := sw_big_in (List.mem_of_getElem? (i := 441) (by decide +kernel)) (by decide +kernel)
theorem kv_X11_put : Cond.selects RX11 yX11_put yX11_put ∈ sw_big := sw_big_in (List.mem_of_getElem? (i := 442) (by decide +kernel)) (by decide +kernel)
theorem kc_X11_sign : Cond.code yX11_sign cX11_sign 3 (some .int) ∈ sw_big := sw_big_in (List.mem_of_getElem? (i := 450) (by decide +kernel)) (by decide +kernel)
theorem ki_X11_sign : Cond.instanceMethod yX11_sign ∈ sw_big := sw_big_in (List.mem_of_getElem? (i := 448) (by decide +kernel)) (by decide +kernel)
theorem kv_X11_sign : Cond.selects RX11 yX11_sign yX11_sign ∈ sw_big := sw_big_in (List.mem_of_getElem? (i := 449) (by decide +kernel)) (by decide +kernel)
theorem kc_X11_powerOf : Cond.code yX11_powerOf cX11_powerOf 3 (some .int) ∈ sw_big := sw_big_in (List.mem_of_getElem? (i := 454) (by decide +kernel)) (by decide +kernel)
theorem ki_X11_powerOf : Cond.instanceMethod yX11_powerOf ∈ sw_big := sw_big_in (List.mem_of_getElem? (i := 452) (by decide +kernel)) (by decide +kernel)
theorem kv_X11_powerOf : Cond.selects RX11 yX11_powerOf yX11_powerOf ∈ sw_big := sw_big_in (List.mem_of_getElem? (i := 453) (by decide +kernel)) (by decide +kernel)
theorem kc_X11_value : Cond.code yX11_value cX11_value 4 (some .long) ∈ sw_big := sw_big_in (List.mem_of_getElem? (i := 458) (by decide +kernel)) (by decide +kernel)
theorem ki_X11_value : Cond.instanceMethod yX11_value ∈ sw_big := sw_big_in (List.mem_of_getElem? (i := 456) (by decide +kernel)) (by decide +kernel)
theorem kv_X11_value : Cond.selects RX11 yX11_value yX11_value ∈ sw_big := sw_big_in (List.mem_of_getElem? (i := 457) (by decide +kernel)) (by decide +kernel)
theorem kc_X11_height : Cond.code yX11_height cX11_height 2 (some .int) ∈ sw_big := sw_big_in (List.mem_of_getElem? (i := 478) (by decide +kernel)) (by decide +kernel)
theorem ki_X11_height : Cond.instanceMethod yX11_height ∈ sw_big := sw_big_in (List.mem_of_getElem? (i := 476) (by decide +kernel)) (by decide +kernel)
theorem kv_X11_height : Cond.selects RX11 yX11_height yX11_height ∈ sw_big := sw_big_in (List.mem_of_getElem? (i := 477) (by decide +kernel)) (by decide +kernel)
theorem kc_X11_isIn : Cond.code yX11_isIn cX11_isIn 2 (some .int) ∈ sw_big := sw_big_in (List.mem_of_getElem? (i := 489) (by decide +kernel)) (by decide +kernel)
theorem ki_X11_isIn : Cond.instanceMethod yX11_isIn ∈ sw_big := sw_big_in (List.mem_of_getElem? (i := 487) (by decide +kernel)) (by decide +kernel)
theorem kv_X11_isIn : Cond.selects RX11 yX11_isIn yX11_isIn ∈ sw_big := sw_big_in (List.mem_of_getElem? (i := 488) (by decide +kernel)) (by decide +kernel)
theorem kc_X11_times : Cond.code yX11_times cX11_times 4 (some .int) ∈ sw_big := sw_big_in (List.mem_of_getElem? (i := 497) (by decide +kernel)) (by decide +kernel)
theorem ki_X11_times : Cond.instanceMethod yX11_times ∈ sw_big := sw_big_in (List.mem_of_getElem? (i := 495) (by decide +kernel)) (by decide +kernel)
theorem kv_X11_times : Cond.selects RX11 yX11_times yX11_times ∈ sw_big := sw_big_in (List.mem_of_getElem? (i := 496) (by decide +kernel)) (by decide +kernel)
theorem kc_X11_over : Cond.code yX11_over cX11_over 4 (some .int) ∈ sw_big := sw_big_in (List.mem_of_getElem? (i := 521) (by decide +kernel)) (by decide +kernel)
theorem ki_X11_over : Cond.instanceMethod yX11_over ∈ sw_big := sw_big_in (List.mem_of_getElem? (i := 519) (by decide +kernel)) (by decide +kernel)
theorem kv_X11_over : Cond.selects RX11 yX11_over yX11_over ∈ sw_big := sw_big_in (List.mem_of_getElem? (i := 520) (by decide +kernel)) (by decide +kernel)
theorem kc_X11_partner : Cond.code yX11_partner cX11_partner 3 (some .int) ∈ sw_big := sw_big_in (List.mem_of_getElem? (i := 525) (by decide +kernel)) (by decide +kernel)
theorem ki_X11_partner : Cond.instanceMethod yX11_partner ∈ sw_big := sw_big_in (List.mem_of_getElem? (i := 523) (by decide +kernel)) (by decide +kernel)
theorem kv_X11_partner : Cond.selects RX11 yX11_partner yX11_partner ∈ sw_big := sw_big_in (List.mem_of_getElem? (i := 524) (by decide +kernel)) (by decide +kernel)
theorem kc_X11_form : Cond.code yX11_form cX11_form 4 (some .int) ∈ sw_big := sw_big_in (List.mem_of_getElem? (i := 552) (by decide +kernel)) (by decide +kernel)
theorem ki_X11_form : Cond.instanceMethod yX11_form ∈ sw_big := sw_big_in (List.mem_of_getElem? (i := 550) (by decide +kernel)) (by decide +kernel)
theorem kv_X11_form : Cond.selects RX11 yX11_form yX11_form ∈ sw_big := sw_big_in (List.mem_of_getElem? (i := 551) (by decide +kernel)) (by decide +kernel)
theorem kc_X11_forms : Cond.code yX11_forms cX11_forms 2 (some .int) ∈ sw_big := sw_big_in (List.mem_of_getElem? (i := 573) (by decide +kernel)) (by decide +kernel)
theorem ki_X11_forms : Cond.instanceMethod yX11_forms ∈ sw_big := sw_big_in (List.mem_of_getElem? (i := 571) (by decide +kernel)) (by decide +kernel)
theorem kv_X11_forms : Cond.selects RX11 yX11_forms yX11_forms ∈ sw_big := sw_big_in (List.mem_of_getElem? (i := 572) (by decide +kernel)) (by decide +kernel)
theorem kc_X11_answers : Cond.code yX11_answers cX11_answers 1 (some .int) ∈ sw_big := sw_big_in (List.mem_of_getElem? (i := 587) (by decide +kernel)) (by decide +kernel)
theorem ki_X11_answers : Cond.instanceMethod yX11_answers ∈ sw_big := sw_big_in (List.mem_of_getElem? (i := 585) (by decide +kernel)) (by decide +kernel)
theorem kv_X11_answers : Cond.selects RX11 yX11_answers yX11_answers ∈ sw_big := sw_big_in (List.mem_of_getElem? (i := 586) (by decide +kernel)) (by decide +kernel)
theorem kc_X11_answer : Cond.code yX11_answer cX11_answer 3 (some .long) ∈ sw_big := sw_big_in (List.mem_of_getElem? (i := 633) (by decide +kernel)) (by decide +kernel)
theorem ki_X11_answer : Cond.instanceMethod yX11_answer ∈ sw_big := sw_big_in (List.mem_of_getElem? (i := 631) (by decide +kernel)) (by decide +kernel)
theorem kv_X11_answer : Cond.selects RX11 yX11_answer yX11_answer ∈ sw_big := sw_big_in (List.mem_of_getElem? (i := 632) (by decide +kernel)) (by decide +kernel)
theorem kc_X11_take : Cond.code yX11_take cX11_take 4 (some .int) ∈ sw_big := sw_big_in (List.mem_of_getElem? (i := 646) (by decide +kernel)) (by decide +kernel)
theorem ki_X11_take : Cond.instanceMethod yX11_take ∈ sw_big := sw_big_in (List.mem_of_getElem? (i := 644) (by decide +kernel)) (by decide +kernel)
theorem kv_X11_take : Cond.selects RX11 yX11_take yX11_take ∈ sw_big := sw_big_in (List.mem_of_getElem? (i := 645) (by decide +kernel)) (by decide +kernel)
theorem kc_X11_which : Cond.code yX11_which cX11_which 3 (some .int) ∈ sw_big := sw_big_in (List.mem_of_getElem? (i := 651) (by decide +kernel)) (by decide +kernel)
theorem ki_X11_which : Cond.instanceMethod yX11_which ∈ sw_big := sw_big_in (List.mem_of_getElem? (i := 649) (by decide +kernel)) (by decide +kernel)
theorem kv_X11_which : Cond.selects RX11 yX11_which yX11_which ∈ sw_big := sw_big_in (List.mem_of_getElem? (i := 650) (by decide +kernel)) (by decide +kernel)
theorem kc_X11_groups : Cond.code yX11_groups cX11_groups 1 (some .int) ∈ sw_big := sw_big_in (List.mem_of_getElem? (i := 661) (by decide +kernel)) (by decide +kernel)
theorem ki_X11_groups : Cond.instanceMethod yX11_groups ∈ sw_big := sw_big_in (List.mem_of_getElem? (i := 659) (by decide +kernel)) (by decide +kernel)
theorem kv_X11_groups : Cond.selects RX11 yX11_groups yX11_groups ∈ sw_big := sw_big_in (List.mem_of_getElem? (i := 660) (by decide +kernel)) (by decide +kernel)
theorem kc_X11_groupOf : Cond.code yX11_groupOf cX11_groupOf 3 (some .int) ∈ sw_big := sw_big_in (List.mem_of_getElem? (i := 665) (by decide +kernel)) (by decide +kernel)
theorem ki_X11_groupOf : Cond.instanceMethod yX11_groupOf ∈ sw_big := sw_big_in (List.mem_of_getElem? (i := 663) (by decide +kernel)) (by decide +kernel)
theorem kv_X11_groupOf : Cond.selects RX11 yX11_groupOf yX11_groupOf ∈ sw_big := sw_big_in (List.mem_of_getElem? (i := 664) (by decide +kernel)) (by decide +kernel)
theorem kc_X11_group : Cond.code yX11_group cX11_group 4 (some .int) ∈ sw_big := sw_big_in (List.mem_of_getElem? (i := 669) (by decide +kernel)) (by decide +kernel)
theorem ki_X11_group : Cond.instanceMethod yX11_group ∈ sw_big := sw_big_in (List.mem_of_getElem? (i := 667) (by decide +kernel)) (by decide +kernel)
theorem kv_X11_group : Cond.selects RX11 yX11_group yX11_group ∈ sw_big := sw_big_in (List.mem_of_getElem? (i := 668) (by decide +kernel)) (by decide +kernel)
theorem kc_X11_lots : Cond.code yX11_lots cX11_lots 9 (some .int) ∈ sw_big := sw_big_in (List.mem_of_getElem? (i := 686) (by decide +kernel)) (by decide +kernel)
theorem ki_X11_lots : Cond.instanceMethod yX11_lots ∈ sw_big := sw_big_in (List.mem_of_getElem? (i := 684) (by decide +kernel)) (by decide +kernel)
theorem kv_X11_lots : Cond.selects RX11 yX11_lots yX11_lots ∈ sw_big := sw_big_in (List.mem_of_getElem? (i := 685) (by decide +kernel)) (by decide +kernel)
theorem kc_X11_sieve : Cond.code yX11_sieve cX11_sieve 3 (some .int) ∈ sw_big := sw_big_in (List.mem_of_getElem? (i := 700) (by decide +kernel)) (by decide +kernel)
theorem ki_X11_sieve : Cond.instanceMethod yX11_sieve ∈ sw_big := sw_big_in (List.mem_of_getElem? (i := 698) (by decide +kernel)) (by decide +kernel)
theorem kv_X11_sieve : Cond.selects RX11 yX11_sieve yX11_sieve ∈ sw_big := sw_big_in (List.mem_of_getElem? (i := 699) (by decide +kernel)) (by decide +kernel)
theorem kc_X11_sieveOf : Cond.code yX11_sieveOf cX11_sieveOf 2 (some .int) ∈ sw_big := sw_big_in (List.mem_of_getElem? (i := 713) (by decide +kernel)) (by decide +kernel)
theorem ki_X11_sieveOf : Cond.instanceMethod yX11_sieveOf ∈ sw_big := sw_big_in (List.mem_of_getElem? (i := 711) (by decide +kernel)) (by decide +kernel)
theorem kv_X11_sieveOf : Cond.selects RX11 yX11_sieveOf yX11_sieveOf ∈ sw_big := sw_big_in (List.mem_of_getElem? (i := 712) (by decide +kernel)) (by decide +kernel)
theorem kc_X11_forget : Cond.code yX11_forget cX11_forget 2 (some .int) ∈ sw_big := sw_big_in (List.mem_of_getElem? (i := 717) (by decide +kernel)) (by decide +kernel)
theorem ki_X11_forget : Cond.instanceMethod yX11_forget ∈ sw_big := sw_big_in (List.mem_of_getElem? (i := 715) (by decide +kernel)) (by decide +kernel)
theorem kv_X11_forget : Cond.selects RX11 yX11_forget yX11_forget ∈ sw_big := sw_big_in (List.mem_of_getElem? (i := 716) (by decide +kernel)) (by decide +kernel)
theorem kc_X11_order : Cond.code yX11_order cX11_order 4 (some .int) ∈ sw_big := sw_big_in (List.mem_of_getElem? (i := 722) (by decide +kernel)) (by decide +kernel)
theorem ki_X11_order : Cond.instanceMethod yX11_order ∈ sw_big := sw_big_in (List.mem_of_getElem? (i := 720) (by decide +kernel)) (by decide +kernel)
theorem kv_X11_order : Cond.selects RX11 yX11_order yX11_order ∈ sw_big := sw_big_in (List.mem_of_getElem? (i := 721) (by decide +kernel)) (by decide +kernel)
theorem kc_X11_reach : Cond.code yX11_reach cX11_reach 3 (some .int) ∈ sw_big := sw_big_in (List.mem_of_getElem? (i := 729) (by decide +kernel)) (by decide +kernel)
theorem ki_X11_reach : Cond.instanceMethod yX11_reach ∈ sw_big := sw_big_in (List.mem_of_getElem? (i := 727) (by decide +kernel)) (by decide +kernel)
theorem kv_X11_reach : Cond.selects RX11 yX11_reach yX11_reach ∈ sw_big := sw_big_in (List.mem_of_getElem? (i := 728) (by decide +kernel)) (by decide +kernel)
theorem kc_X11_passes : Cond.code yX11_passes cX11_passes 4 (some .int) ∈ sw_big := sw_big_in (List.mem_of_getElem? (i := 745) (by decide +kernel)) (by decide +kernel)
theorem ki_X11_passes : Cond.instanceMethod yX11_passes ∈ sw_big := sw_big_in (List.mem_of_getElem? (i := 743) (by decide +kernel)) (by decide +kernel)
theorem kv_X11_passes : Cond.selects RX11 yX11_passes yX11_passes ∈ sw_big := sw_big_in (List.mem_of_getElem? (i := 744) (by decide +kernel)) (by decide +kernel)
theorem kc_X11_left : Cond.code yX11_left cX11_left 1 (some .int) ∈ sw_big := sw_big_in (List.mem_of_getElem? (i := 764) (by decide +kernel)) (by decide +kernel)
theorem ki_X11_left : Cond.instanceMethod yX11_left ∈ sw_big := sw_big_in (List.mem_of_getElem? (i := 762) (by decide +kernel)) (by decide +kernel)
theorem kv_X11_left : Cond.selects RX11 yX11_left yX11_left ∈ sw_big := sw_big_in (List.mem_of_getElem? (i := 763) (by decide +kernel)) (by decide +kernel)
theorem kc_X11_feed : Cond.code yX11_feed cX11_feed 2 (some .int) ∈ sw_big := sw_big_in (List.mem_of_getElem? (i := 786) (by decide +kernel)) (by decide +kernel)
theorem ki_X11_feed : Cond.instanceMethod yX11_feed ∈ sw_big := sw_big_in (List.mem_of_getElem? (i := 784) (by decide +kernel)) (by decide +kernel)
theorem kv_X11_feed : Cond.selects RX11 yX11_feed yX11_feed ∈ sw_big := sw_big_in (List.mem_of_getElem? (i := 785) (by decide +kernel)) (by decide +kernel)
theorem kc_X11_wipe : Cond.code yX11_wipe cX11_wipe 2 (some .int) ∈ sw_big := sw_big_in (List.mem_of_getElem? (i := 794) (by decide +kernel)) (by decide +kernel)
theorem ki_X11_wipe : Cond.instanceMethod yX11_wipe ∈ sw_big := sw_big_in (List.mem_of_getElem? (i := 792) (by decide +kernel)) (by decide +kernel)
theorem kv_X11_wipe : Cond.selects RX11 yX11_wipe yX11_wipe ∈ sw_big := sw_big_in (List.mem_of_getElem? (i := 793) (by decide +kernel)) (by decide +kernel)
theorem kc_X11_read : Cond.code yX11_read cX11_read 3 (some .int) ∈ sw_big := sw_big_in (List.mem_of_getElem? (i := 802) (by decide +kernel)) (by decide +kernel)
theorem ki_X11_read : Cond.instanceMethod yX11_read ∈ sw_big := sw_big_in (List.mem_of_getElem? (i := 800) (by decide +kernel)) (by decide +kernel)
theorem kv_X11_read : Cond.selects RX11 yX11_read yX11_read ∈ sw_big := sw_big_in (List.mem_of_getElem? (i := 801) (by decide +kernel)) (by decide +kernel)
theorem kc_X11_spelled : Cond.code yX11_spelled cX11_spelled 3 (some .int) ∈ sw_big := sw_big_in (List.mem_of_getElem? (i := 831) (by decide +kernel)) (by decide +kernel)
theorem ki_X11_spelled : Cond.instanceMethod yX11_spelled ∈ sw_big := sw_big_in (List.mem_of_getElem? (i := 829) (by decide +kernel)) (by decide +kernel)
theorem kv_X11_spelled : Cond.selects RX11 yX11_spelled yX11_spelled ∈ sw_big := sw_big_in (List.mem_of_getElem? (i := 830) (by decide +kernel)) (by decide +kernel)
theorem kc_X11_list : Cond.code yX11_list cX11_list 3 (some .int) ∈ sw_big := sw_big_in (List.mem_of_getElem? (i := 845) (by decide +kernel)) (by decide +kernel)
theorem ki_X11_list : Cond.instanceMethod yX11_list ∈ sw_big := sw_big_in (List.mem_of_getElem? (i := 843) (by decide +kernel)) (by decide +kernel)
theorem kv_X11_list : Cond.selects RX11 yX11_list yX11_list ∈ sw_big := sw_big_in (List.mem_of_getElem? (i := 844) (by decide +kernel)) (by decide +kernel)
theorem kc_X11_lay : Cond.code yX11_lay cX11_lay 5 (some .int) ∈ sw_big := sw_big_in (List.mem_of_getElem? (i := 859) (by decide +kernel)) (by decide +kernel)
theorem ki_X11_lay : Cond.instanceMethod yX11_lay ∈ sw_big := sw_big_in (List.mem_of_getElem? (i := 857) (by decide +kernel)) (by decide +kernel)
theorem kv_X11_lay : Cond.selects RX11 yX11_lay yX11_lay ∈ sw_big := sw_big_in (List.mem_of_getElem? (i := 858) (by decide +kernel)) (by decide +kernel)
theorem kc_X11_get : Cond.code yX11_get cX11_get 3 (some .long) ∈ sw_big := sw_big_in (List.mem_of_getElem? (i := 871) (by decide +kernel)) (by decide +kernel)
theorem ki_X11_get : Cond.instanceMethod yX11_get ∈ sw_big := sw_big_in (List.mem_of_getElem? (i := 869) (by decide +kernel)) (by decide +kernel)
theorem kv_X11_get : Cond.selects RX11 yX11_get yX11_get ∈ sw_big := sw_big_in (List.mem_of_getElem? (i := 870) (by decide +kernel)) (by decide +kernel)
theorem kc_X11_film : Cond.code yX11_film cX11_film 6 (some .int) ∈ sw_big := sw_big_in (List.mem_of_getElem? (i := 875) (by decide +kernel)) (by decide +kernel)
theorem ki_X11_film : Cond.instanceMethod yX11_film ∈ sw_big := sw_big_in (List.mem_of_getElem? (i := 873) (by decide +kernel)) (by decide +kernel)
theorem kv_X11_film : Cond.selects RX11 yX11_film yX11_film ∈ sw_big := sw_big_in (List.mem_of_getElem? (i := 874) (by decide +kernel)) (by decide +kernel)
theorem kc_X11_judge : Cond.code yX11_judge cX11_judge 8 (some .int) ∈ sw_big := sw_big_in (List.mem_of_getElem? (i := 880) (by decide +kernel)) (by decide +kernel)
theorem ki_X11_judge : Cond.instanceMethod yX11_judge ∈ sw_big := sw_big_in (List.mem_of_getElem? (i := 878) (by decide +kernel)) (by decide +kernel)
theorem kv_X11_judge : Cond.selects RX11 yX11_judge yX11_judge ∈ sw_big := sw_big_in (List.mem_of_getElem? (i := 879) (by decide +kernel)) (by decide +kernel)
theorem kc_X11_image : Cond.code yX11_image cX11_image 1 (some .int) ∈ sw_big := sw_big_in (List.mem_of_getElem? (i := 884) (by decide +kernel)) (by decide +kernel)
theorem ki_X11_image : Cond.instanceMethod yX11_image ∈ sw_big := sw_big_in (List.mem_of_getElem? (i := 882) (by decide +kernel)) (by decide +kernel)
theorem kv_X11_image : Cond.selects RX11 yX11_image yX11_image ∈ sw_big := sw_big_in (List.mem_of_getElem? (i := 883) (by decide +kernel)) (by decide +kernel)
theorem kc_X11_undo : Cond.code yX11_undo cX11_undo 1 (some .int) ∈ sw_big := sw_big_in (List.mem_of_getElem? (i := 903) (by decide +kernel)) (by decide +kernel)
theorem ki_X11_undo : Cond.instanceMethod yX11_undo ∈ sw_big := sw_big_in (List.mem_of_getElem? (i := 901) (by decide +kernel)) (by decide +kernel)
theorem kv_X11_undo : Cond.selects RX11 yX11_undo yX11_undo ∈ sw_big := sw_big_in (List.mem_of_getElem? (i := 902) (by decide +kernel)) (by decide +kernel)
theorem kc_X11_count : Cond.code yX11_count cX11_count 2 (some .int) ∈ sw_big := sw_big_in (List.mem_of_getElem? (i := 907) (by decide +kernel)) (by decide +kernel)
theorem ki_X11_count : Cond.instanceMethod yX11_count ∈ sw_big := sw_big_in (List.mem_of_getElem? (i := 905) (by decide +kernel)) (by decide +kernel)
theorem kv_X11_count : Cond.selects RX11 yX11_count yX11_count ∈ sw_big := sw_big_in (List.mem_of_getElem? (i := 906) (by decide +kernel)) (by decide +kernel)
theorem kc_X11_isShelf : Cond.code yX11_isShelf cX11_isShelf 1 (some .boolean) ∈ sw_big := sw_big_in (List.mem_of_getElem? (i := 446) (by decide +kernel)) (by decide +kernel)
theorem ks_X11_isShelf : Cond.static yX11_isShelf ∈ sw_big := sw_big_in (List.mem_of_getElem? (i := 445) (by decide +kernel)) (by decide +kernel)
theorem kc_X11_isPart : Cond.code yX11_isPart cX11_isPart 1 (some .boolean) ∈ sw_big := sw_big_in (List.mem_of_getElem? (i := 461) (by decide +kernel)) (by decide +kernel)
theorem ks_X11_isPart : Cond.static yX11_isPart ∈ sw_big := sw_big_in (List.mem_of_getElem? (i := 460) (by decide +kernel)) (by decide +kernel)
theorem kc_X11_isList : Cond.code yX11_isList cX11_isList 1 (some .boolean) ∈ sw_big := sw_big_in (List.mem_of_getElem? (i := 848) (by decide +kernel)) (by decide +kernel)
theorem ks_X11_isList : Cond.static yX11_isList ∈ sw_big := sw_big_in (List.mem_of_getElem? (i := 847) (by decide +kernel)) (by decide +kernel)
theorem kc_X11_isPrimeWithin : Cond.code yX11_isPrimeWithin cX11_isPrimeWithin 4 (some .boolean) ∈ sw_big := sw_big_in (List.mem_of_getElem? (i := 373) (by decide +kernel)) (by decide +kernel)
theorem ks_X11_isPrimeWithin : Cond.static yX11_isPrimeWithin ∈ sw_big := sw_big_in (List.mem_of_getElem? (i := 372) (by decide +kernel)) (by decide +kernel)
theorem kc_X11_nextSeed : Cond.code yX11_nextSeed cX11_nextSeed 1 (some .int) ∈ sw_big := sw_big_in (List.mem_of_getElem? (i := 690) (by decide +kernel)) (by decide +kernel)
theorem ks_X11_nextSeed : Cond.static yX11_nextSeed ∈ sw_big := sw_big_in (List.mem_of_getElem? (i := 689) (by decide +kernel)) (by decide +kernel)
theorem kc_X11_draw : Cond.code yX11_draw cX11_draw 2 (some .int) ∈ sw_big := sw_big_in (List.mem_of_getElem? (i := 694) (by decide +kernel)) (by decide +kernel)
theorem ks_X11_draw : Cond.static yX11_draw ∈ sw_big := sw_big_in (List.mem_of_getElem? (i := 693) (by decide +kernel)) (by decide +kernel)
theorem kc_X11_orderModulo : Cond.code yX11_orderModulo cX11_orderModulo 4 (some .int) ∈ sw_big := sw_big_in (List.mem_of_getElem? (i := 725) (by decide +kernel)) (by decide +kernel)
theorem ks_X11_orderModulo : Cond.static yX11_orderModulo ∈ sw_big := sw_big_in (List.mem_of_getElem? (i := 724) (by decide +kernel)) (by decide +kernel)
theorem kc_X11_divides : Cond.code yX11_divides cX11_divides 3 (some .boolean) ∈ sw_big := sw_big_in (List.mem_of_getElem? (i := 548) (by decide +kernel)) (by decide +kernel)
theorem ks_X11_divides : Cond.static yX11_divides ∈ sw_big := sw_big_in (List.mem_of_getElem? (i := 547) (by decide +kernel)) (by decide +kernel)
theorem kc_X11_primesChanged : Cond.code yX11_primesChanged cX11_primesChanged 1 none ∈ sw_big := sw_big_in (List.mem_of_getElem? (i := 405) (by decide +kernel)) (by decide +kernel)
theorem ki_X11_primesChanged : Cond.instanceMethod yX11_primesChanged ∈ sw_big := sw_big_in (List.mem_of_getElem? (i := 404) (by decide +kernel)) (by decide +kernel)
theorem kv_X11_primesChanged : Cond.selects RX11 yX11_primesChanged yX11_primesChanged ∈ sw_big := sw_big_in (List.mem_of_getElem? (i := 1) (by decide +kernel)) (by decide +kernel)
theorem kc_X11_known : Cond.code yX11_known cX11_known 1 (some (.object "SumsToOne$Answers")) ∈ sw_big := sw_big_in (List.mem_of_getElem? (i := 591) (by decide +kernel)) (by decide +kernel)
theorem ki_X11_known : Cond.instanceMethod yX11_known ∈ sw_big := sw_big_in (List.mem_of_getElem? (i := 590) (by decide +kernel)) (by decide +kernel)
theorem kv_X11_known : Cond.selects RX11 yX11_known yX11_known ∈ sw_big := sw_big_in (List.mem_of_getElem? (i := 8) (by decide +kernel)) (by decide +kernel)
theorem kc_X11_combine : Cond.code yX11_combine cX11_combine 5 (some .int) ∈ sw_big := sw_big_in (List.mem_of_getElem? (i := 501) (by decide +kernel)) (by decide +kernel)
theorem ki_X11_combine : Cond.instanceMethod yX11_combine ∈ sw_big := sw_big_in (List.mem_of_getElem? (i := 500) (by decide +kernel)) (by decide +kernel)
theorem kv_X11_combine : Cond.selects RX11 yX11_combine yX11_combine ∈ sw_big := sw_big_in (List.mem_of_getElem? (i := 3) (by decide +kernel)) (by decide +kernel)
theorem kc_X11_hasPartner : Cond.code yX11_hasPartner cX11_hasPartner 2 (some .boolean) ∈ sw_big := sw_big_in (List.mem_of_getElem? (i := 529) (by decide +kernel)) (by decide +kernel)
theorem ki_X11_hasPartner : Cond.instanceMethod yX11_hasPartner ∈ sw_big := sw_big_in (List.mem_of_getElem? (i := 528) (by decide +kernel)) (by decide +kernel)
theorem kv_X11_hasPartner : Cond.selects RX11 yX11_hasPartner yX11_hasPartner ∈ sw_big := sw_big_in (List.mem_of_getElem? (i := 4) (by decide +kernel)) (by decide +kernel)
theorem kc_X11_howManyPairs : Cond.code yX11_howManyPairs cX11_howManyPairs 3 (some .int) ∈ sw_big := sw_big_in (List.mem_of_getElem? (i := 915) (by decide +kernel)) (by decide +kernel)
theorem ki_X11_howManyPairs : Cond.instanceMethod yX11_howManyPairs ∈ sw_big := sw_big_in (List.mem_of_getElem? (i := 914) (by decide +kernel)) (by decide +kernel)
theorem kv_X11_howManyPairs : Cond.selects RX11 yX11_howManyPairs yX11_howManyPairs ∈ sw_big := sw_big_in (List.mem_of_getElem? (i := 22) (by decide +kernel)) (by decide +kernel)
theorem kc_X11_greatestHeightIn : Cond.code yX11_greatestHeightIn cX11_greatestHeightIn 5 (some .int) ∈ sw_big := sw_big_in (List.mem_of_getElem? (i := 681) (by decide +kernel)) (by decide +kernel)
theorem ki_X11_greatestHeightIn : Cond.instanceMethod yX11_greatestHeightIn ∈ sw_big := sw_big_in (List.mem_of_getElem? (i := 680) (by decide +kernel)) (by decide +kernel)
theorem kv_X11_greatestHeightIn : Cond.selects RX11 yX11_greatestHeightIn yX11_greatestHeightIn ∈ sw_big := sw_big_in (List.mem_of_getElem? (i := 14) (by decide +kernel)) (by decide +kernel)
theorem kc_X11_faultOfModulus : Cond.code yX11_faultOfModulus cX11_faultOfModulus 2 (some .int) ∈ sw_big := sw_big_in (List.mem_of_getElem? (i := 704) (by decide +kernel)) (by decide +kernel)
theorem ki_X11_faultOfModulus : Cond.instanceMethod yX11_faultOfModulus ∈ sw_big := sw_big_in (List.mem_of_getElem? (i := 703) (by decide +kernel)) (by decide +kernel)
theorem kv_X11_faultOfModulus : Cond.selects RX11 yX11_faultOfModulus yX11_faultOfModulus ∈ sw_big := sw_big_in (List.mem_of_getElem? (i := 15) (by decide +kernel)) (by decide +kernel)
theorem kc_X12_init : Cond.code yX12_init cX12_init 1 none ∈ sw_big := sw_big_in (List.mem_of_getElem? (i := 920) (by decide +kernel)) (by decide +kernel)
theorem ki_X12_init : Cond.instanceMethod yX12_init ∈ sw_big := sw_big_in (List.mem_of_getElem? (i := 919) (by decide +kernel)) (by decide +kernel)
theorem kn_RX12 : Cond.initialized RX12 ∈ sw_big := sw_big_in (List.mem_of_getElem? (i := 70) (by decide +kernel)) (by decide +kernel)
theorem kc_X12_in : Cond.code yX12_in cX12_in 3 (some .boolean) ∈ sw_big := sw_big_in (List.mem_of_getElem? (i := 1031) (by decide +kernel)) (by decide +kernel)
theorem ks_X12_in : Cond.static yX12_in ∈ sw_big := sw_big_in (List.mem_of_getElem? (i := 1030) (by decide +kernel)) (by decide +kernel)
theorem kc_X12_isPrime : Cond.code yX12_isPrime cX12_isPrime 2 (some .boolean) ∈ sw_big := sw_big_in (List.mem_of_getElem? (i := 1054) (by decide +kernel)) (by decide +kernel)
theorem ki_X12_isPrime : Cond.instanceMethod yX12_isPrime ∈ sw_big := sw_big_in (List.mem_of_getElem? (i := 1053) (by decide +kernel)) (by decide +kernel)
theorem kv_X12_isPrime : Cond.selects RX12 yX12_isPrime yX12_isPrime ∈ sw_big := sw_big_in (List.mem_of_getElem? (i := 26) (by decide +kernel)) (by decide +kernel)
theorem kc_X12_isShelf : Cond.code yX12_isShelf cX12_isShelf 1 (some .boolean) ∈ sw_big := sw_big_in (List.mem_of_getElem? (i := 1073) (by decide +kernel)) (by decide +kernel)
theorem ks_X12_isShelf : Cond.static yX12_isShelf ∈ sw_big := sw_big_in (List.mem_of_getElem? (i := 1072) (by decide +kernel)) (by decide +kernel)
theorem kc_X12_isWhole : Cond.code yX12_isWhole cX12_isWhole 2 (some .boolean) ∈ sw_big := sw_big_in (List.mem_of_getElem? (i := 1034) (by decide +kernel)) (by decide +kernel)
theorem ks_X12_isWhole : Cond.static yX12_isWhole ∈ sw_big := sw_big_in (List.mem_of_getElem? (i := 1033) (by decide +kernel)) (by decide +kernel)
theorem kc_X12_placeOf : Cond.code yX12_placeOf cX12_placeOf 3 (some .int) ∈ sw_big := sw_big_in (List.mem_of_getElem? (i := 1038) (by decide +kernel)) (by decide +kernel)
theorem ki_X12_placeOf : Cond.instanceMethod yX12_placeOf ∈ sw_big := sw_big_in (List.mem_of_getElem? (i := 1037) (by decide +kernel)) (by decide +kernel)
theorem kv_X12_placeOf : Cond.selects RX12 yX12_placeOf yX12_placeOf ∈ sw_big := sw_big_in (List.mem_of_getElem? (i := 23) (by decide +kernel)) (by decide +kernel)
theorem kc_X12_prime : Cond.code yX12_prime cX12_prime 5 (some .int) ∈ sw_big := sw_big_in (List.mem_of_getElem? (i := 1028) (by decide +kernel)) (by decide +kernel)
theorem ki_X12_prime : Cond.instanceMethod yX12_prime ∈ sw_big := sw_big_in (List.mem_of_getElem? (i := 1026) (by decide +kernel)) (by decide +kernel)
theorem kv_X12_prime : Cond.selects RX12 yX12_prime yX12_prime ∈ sw_big := sw_big_in (List.mem_of_getElem? (i := 1027) (by decide +kernel)) (by decide +kernel)
theorem kc_X12_moves : Cond.code yX12_moves cX12_moves 4 none ∈ sw_big := sw_big_in (List.mem_of_getElem? (i := 1042) (by decide +kernel)) (by decide +kernel)
theorem ki_X12_moves : Cond.instanceMethod yX12_moves ∈ sw_big := sw_big_in (List.mem_of_getElem? (i := 1041) (by decide +kernel)) (by decide +kernel)
theorem kv_X12_moves : Cond.selects RX12 yX12_moves yX12_moves ∈ sw_big := sw_big_in (List.mem_of_getElem? (i := 24) (by decide +kernel)) (by decide +kernel)
theorem kc_X12_drop : Cond.code yX12_drop cX12_drop 3 (some .int) ∈ sw_big := sw_big_in (List.mem_of_getElem? (i := 1050) (by decide +kernel)) (by decide +kernel)
theorem ki_X12_drop : Cond.instanceMethod yX12_drop ∈ sw_big := sw_big_in (List.mem_of_getElem? (i := 1048) (by decide +kernel)) (by decide +kernel)
theorem kv_X12_drop : Cond.selects RX12 yX12_drop yX12_drop ∈ sw_big := sw_big_in (List.mem_of_getElem? (i := 1049) (by decide +kernel)) (by decide +kernel)
theorem kc_X12_primeOf : Cond.code yX12_primeOf cX12_primeOf 2 (some .int) ∈ sw_big := sw_big_in (List.mem_of_getElem? (i := 1058) (by decide +kernel)) (by decide +kernel)
theorem ki_X12_primeOf : Cond.instanceMethod yX12_primeOf ∈ sw_big := sw_big_in (List.mem_of_getElem? (i := 1056) (by decide +kernel)) (by decide +kernel)
theorem kv_X12_primeOf : Cond.selects RX12 yX12_primeOf yX12_primeOf ∈ sw_big := sw_big_in (List.mem_of_getElem? (i := 1057) (by decide +kernel)) (by decide +kernel)
theorem kc_X12_box : Cond.code yX12_box cX12_box 4 (some .int) ∈ sw_big := sw_big_in (List.mem_of_getElem? (i := 1062) (by decide +kernel)) (by decide +kernel)
theorem ki_X12_box : Cond.instanceMethod yX12_box ∈ sw_big := sw_big_in (List.mem_of_getElem? (i := 1060) (by decide +kernel)) (by decide +kernel)
theorem kv_X12_box : Cond.selects RX12 yX12_box yX12_box ∈ sw_big := sw_big_in (List.mem_of_getElem? (i := 1061) (by decide +kernel)) (by decide +kernel)
theorem kc_X12_boxOf : Cond.code yX12_boxOf cX12_boxOf 2 (some .int) ∈ sw_big := sw_big_in (List.mem_of_getElem? (i := 1066) (by decide +kernel)) (by decide +kernel)
theorem ki_X12_boxOf : Cond.instanceMethod yX12_boxOf ∈ sw_big := sw_big_in (List.mem_of_getElem? (i := 1064) (by decide +kernel)) (by decide +kernel)
theorem kv_X12_boxOf : Cond.selects RX12 yX12_boxOf yX12_boxOf ∈ sw_big := sw_big_in (List.mem_of_getElem? (i := 1065) (by decide +kernel)) (by decide +kernel)
theorem kc_X12_looks : Cond.code yX12_looks cX12_looks 3 none ∈ sw_big := sw_big_in (List.mem_of_getElem? (i := 1090) (by decide +kernel)) (by decide +kernel)
theorem ki_X12_looks : Cond.instanceMethod yX12_looks ∈ sw_big := sw_big_in (List.mem_of_getElem? (i := 1089) (by decide +kernel)) (by decide +kernel)
theorem kv_X12_looks : Cond.selects RX12 yX12_looks yX12_looks ∈ sw_big := sw_big_in (List.mem_of_getElem? (i := 27) (by decide +kernel)) (by decide +kernel)
theorem kc_X12_aboveOf : Cond.code yX12_aboveOf cX12_aboveOf 7 (some .long) ∈ sw_big := sw_big_in (List.mem_of_getElem? (i := 1094) (by decide +kernel)) (by decide +kernel)
theorem ki_X12_aboveOf : Cond.instanceMethod yX12_aboveOf ∈ sw_big := sw_big_in (List.mem_of_getElem? (i := 1093) (by decide +kernel)) (by decide +kernel)
theorem kv_X12_aboveOf : Cond.selects RX12 yX12_aboveOf yX12_aboveOf ∈ sw_big := sw_big_in (List.mem_of_getElem? (i := 28) (by decide +kernel)) (by decide +kernel)
theorem kc_X12_belowOf : Cond.code yX12_belowOf cX12_belowOf 6 (some .long) ∈ sw_big := sw_big_in (List.mem_of_getElem? (i := 1098) (by decide +kernel)) (by decide +kernel)
theorem ki_X12_belowOf : Cond.instanceMethod yX12_belowOf ∈ sw_big := sw_big_in (List.mem_of_getElem? (i := 1097) (by decide +kernel)) (by decide +kernel)
theorem kv_X12_belowOf : Cond.selects RX12 yX12_belowOf yX12_belowOf ∈ sw_big := sw_big_in (List.mem_of_getElem? (i := 29) (by decide +kernel)) (by decide +kernel)
theorem kc_X12_isInBox : Cond.code yX12_isInBox cX12_isInBox 3 (some .boolean) ∈ sw_big := sw_big_in (List.mem_of_getElem? (i := 1115) (by decide +kernel)) (by decide +kernel)
theorem ki_X12_isInBox : Cond.instanceMethod yX12_isInBox ∈ sw_big := sw_big_in (List.mem_of_getElem? (i := 1114) (by decide +kernel)) (by decide +kernel)
theorem kv_X12_isInBox : Cond.selects RX12 yX12_isInBox yX12_isInBox ∈ sw_big := sw_big_in (List.mem_of_getElem? (i := 31) (by decide +kernel)) (by decide +kernel)
theorem kc_X12_hasMate : Cond.code yX12_hasMate cX12_hasMate 4 (some .boolean) ∈ sw_big := sw_big_in (List.mem_of_getElem? (i := 1139) (by decide +kernel)) (by decide +kernel)
theorem ki_X12_hasMate : Cond.instanceMethod yX12_hasMate ∈ sw_big := sw_big_in (List.mem_of_getElem? (i := 1138) (by decide +kernel)) (by decide +kernel)
theorem kv_X12_hasMate : Cond.selects RX12 yX12_hasMate yX12_hasMate ∈ sw_big := sw_big_in (List.mem_of_getElem? (i := 34) (by decide +kernel)) (by decide +kernel)
theorem kc_X12_hasForm : Cond.code yX12_hasForm cX12_hasForm 5 (some .boolean) ∈ sw_big := sw_big_in (List.mem_of_getElem? (i := 1148) (by decide +kernel)) (by decide +kernel)
theorem ki_X12_hasForm : Cond.instanceMethod yX12_hasForm ∈ sw_big := sw_big_in (List.mem_of_getElem? (i := 1147) (by decide +kernel)) (by decide +kernel)
theorem kv_X12_hasForm : Cond.selects RX12 yX12_hasForm yX12_hasForm ∈ sw_big := sw_big_in (List.mem_of_getElem? (i := 35) (by decide +kernel)) (by decide +kernel)
theorem kc_X12_gets : Cond.code yX12_gets cX12_gets 5 none ∈ sw_big := sw_big_in (List.mem_of_getElem? (i := 1127) (by decide +kernel)) (by decide +kernel)
theorem ki_X12_gets : Cond.instanceMethod yX12_gets ∈ sw_big := sw_big_in (List.mem_of_getElem? (i := 1126) (by decide +kernel)) (by decide +kernel)
theorem kv_X12_gets : Cond.selects RX12 yX12_gets yX12_gets ∈ sw_big := sw_big_in (List.mem_of_getElem? (i := 33) (by decide +kernel)) (by decide +kernel)
theorem kc_X12_put : Cond.code yX12_put cX12_put 5 (some .int) ∈ sw_big := sw_big_in (List.mem_of_getElem? (i := 1070) (by decide +kernel)) (by decide +kernel)
theorem ki_X12_put : Cond.instanceMethod yX12_put ∈ sw_big := sw_big_in (List.mem_of_getElem? (i := 1068) (by decide +kernel)) (by decide +kernel)
theorem kv_X12_put : Cond.selects RX12 yX12_put yX12_put ∈ sw_big := sw_big_in (List.mem_of_getElem? (i := 1069) (by decide +kernel)) (by decide +kernel)
theorem kc_X12_sign : Cond.code yX12_sign cX12_sign 3 (some .int) ∈ sw_big := sw_big_in (List.mem_of_getElem? (i := 1077) (by decide +kernel)) (by decide +kernel)
theorem ki_X12_sign : Cond.instanceMethod yX12_sign ∈ sw_big := sw_big_in (List.mem_of_getElem? (i := 1075) (by decide +kernel)) (by decide +kernel)
theorem kv_X12_sign : Cond.selects RX12 yX12_sign yX12_sign ∈ sw_big := sw_big_in (List.mem_of_getElem? (i := 1076) (by decide +kernel)) (by decide +kernel)
theorem kc_X12_powerOf : Cond.code yX12_powerOf cX12_powerOf 3 (some .int) ∈ sw_big := sw_big_in (List.mem_of_getElem? (i := 1081) (by decide +kernel)) (by decide +kernel)
theorem ki_X12_powerOf : Cond.instanceMethod yX12_powerOf ∈ sw_big := sw_big_in (List.mem_of_getElem? (i := 1079) (by decide +kernel)) (by decide +kernel)
theorem kv_X12_powerOf : Cond.selects RX12 yX12_powerOf yX12_powerOf ∈ sw_big := sw_big_in (List.mem_of_getElem? (i := 1080) (by decide +kernel)) (by decide +kernel)
theorem kc_X12_value : Cond.code yX12_value cX12_value 3 (some .long) ∈ sw_big := sw_big_in (List.mem_of_getElem? (i := 1085) (by decide +kernel)) (by decide +kernel)
theorem ki_X12_value : Cond.instanceMethod yX12_value ∈ sw_big := sw_big_in (List.mem_of_getElem? (i := 1083) (by decide +kernel)) (by decide +kernel)
theorem kv_X12_value : Cond.selects RX12 yX12_value yX12_value ∈ sw_big := sw_big_in (List.mem_of_getElem? (i := 1084) (by decide +kernel)) (by decide +kernel)
theorem kc_X12_heightOf : Cond.code yX12_heightOf cX12_heightOf 4 (some .int) ∈ sw_big := sw_big_in (List.mem_of_getElem? (i := 1106) (by decide +kernel)) (by decide +kernel)
theorem ki_X12_heightOf : Cond.instanceMethod yX12_heightOf ∈ sw_big := sw_big_in (List.mem_of_getElem? (i := 1105) (by decide +kernel)) (by decide +kernel)
theorem kv_X12_heightOf : Cond.selects RX12 yX12_heightOf yX12_heightOf ∈ sw_big := sw_big_in (List.mem_of_getElem? (i := 30) (by decide +kernel)) (by decide +kernel)
theorem kc_X12_height : Cond.code yX12_height cX12_height 2 (some .int) ∈ sw_big := sw_big_in (List.mem_of_getElem? (i := 1102) (by decide +kernel)) (by decide +kernel)
theorem ki_X12_height : Cond.instanceMethod yX12_height ∈ sw_big := sw_big_in (List.mem_of_getElem? (i := 1100) (by decide +kernel)) (by decide +kernel)
theorem kv_X12_height : Cond.selects RX12 yX12_height yX12_height ∈ sw_big := sw_big_in (List.mem_of_getElem? (i := 1101) (by decide +kernel)) (by decide +kernel)
theorem kc_X12_isIn : Cond.code yX12_isIn cX12_isIn 2 (some .int) ∈ sw_big := sw_big_in (List.mem_of_getElem? (i := 1111) (by decide +kernel)) (by decide +kernel)
theorem ki_X12_isIn : Cond.instanceMethod yX12_isIn ∈ sw_big := sw_big_in (List.mem_of_getElem? (i := 1109) (by decide +kernel)) (by decide +kernel)
theorem kv_X12_isIn : Cond.selects RX12 yX12_isIn yX12_isIn ∈ sw_big := sw_big_in (List.mem_of_getElem? (i := 1110) (by decide +kernel)) (by decide +kernel)
theorem kc_X12_joins : Cond.code yX12_joins cX12_joins 6 (some .int) ∈ sw_big := sw_big_in (List.mem_of_getElem? (i := 1123) (by decide +kernel)) (by decide +kernel)
theorem ki_X12_joins : Cond.instanceMethod yX12_joins ∈ sw_big := sw_big_in (List.mem_of_getElem? (i := 1122) (by decide +kernel)) (by decide +kernel)
theorem kv_X12_joins : Cond.selects RX12 yX12_joins yX12_joins ∈ sw_big := sw_big_in (List.mem_of_getElem? (i := 32) (by decide +kernel)) (by decide +kernel)
theorem kc_X12_times : Cond.code yX12_times cX12_times 4 (some .int) ∈ sw_big := sw_big_in (List.mem_of_getElem? (i := 1119) (by decide +kernel)) (by decide +kernel)
theorem ki_X12_times : Cond.instanceMethod yX12_times ∈ sw_big := sw_big_in (List.mem_of_getElem? (i := 1117) (by decide +kernel)) (by decide +kernel)
theorem kv_X12_times : Cond.selects RX12 yX12_times yX12_times ∈ sw_big := sw_big_in (List.mem_of_getElem? (i := 1118) (by decide +kernel)) (by decide +kernel)
theorem kc_X12_over : Cond.code yX12_over cX12_over 4 (some .int) ∈ sw_big := sw_big_in (List.mem_of_getElem? (i := 1131) (by decide +kernel)) (by decide +kernel)
theorem ki_X12_over : Cond.instanceMethod yX12_over ∈ sw_big := sw_big_in (List.mem_of_getElem? (i := 1129) (by decide +kernel)) (by decide +kernel)
theorem kv_X12_over : Cond.selects RX12 yX12_over yX12_over ∈ sw_big := sw_big_in (List.mem_of_getElem? (i := 1130) (by decide +kernel)) (by decide +kernel)
theorem kc_X12_partner : Cond.code yX12_partner cX12_partner 3 (some .int) ∈ sw_big := sw_big_in (List.mem_of_getElem? (i := 1135) (by decide +kernel)) (by decide +kernel)
theorem ki_X12_partner : Cond.instanceMethod yX12_partner ∈ sw_big := sw_big_in (List.mem_of_getElem? (i := 1133) (by decide +kernel)) (by decide +kernel)
theorem kv_X12_partner : Cond.selects RX12 yX12_partner yX12_partner ∈ sw_big := sw_big_in (List.mem_of_getElem? (i := 1134) (by decide +kernel)) (by decide +kernel)
theorem kc_X12_form : Cond.code yX12_form cX12_form 4 (some .int) ∈ sw_big := sw_big_in (List.mem_of_getElem? (i := 1144) (by decide +kernel)) (by decide +kernel)
theorem ki_X12_form : Cond.instanceMethod yX12_form ∈ sw_big := sw_big_in (List.mem_of_getElem? (i := 1142) (by decide +kernel)) (by decide +kernel)
theorem kv_X12_form : Cond.selects RX12 yX12_form yX12_form ∈ sw_big := sw_big_in (List.mem_of_getElem? (i := 1143) (by decide +kernel)) (by decide +kernel)
theorem kc_X12_forms : Cond.code yX12_forms cX12_forms 6 (some .int) ∈ sw_big := sw_big_in (List.mem_of_getElem? (i := 1152) (by decide +kernel)) (by decide +kernel)
theorem ki_X12_forms : Cond.instanceMethod yX12_forms ∈ sw_big := sw_big_in (List.mem_of_getElem? (i := 1150) (by decide +kernel)) (by decide +kernel)
theorem kv_X12_forms : Cond.selects RX12 yX12_forms yX12_forms ∈ sw_big := sw_big_in (List.mem_of_getElem? (i := 1151) (by decide +kernel)) (by decide +kernel)
theorem kc_X12_looksFirst : Cond.code yX12_looksFirst cX12_looksFirst 2 none ∈ sw_big := sw_big_in (List.mem_of_getElem? (i := 1164) (by decide +kernel)) (by decide +kernel)
theorem ki_X12_looksFirst : Cond.instanceMethod yX12_looksFirst ∈ sw_big := sw_big_in (List.mem_of_getElem? (i := 1163) (by decide +kernel)) (by decide +kernel)
theorem kv_X12_looksFirst : Cond.selects RX12 yX12_looksFirst yX12_looksFirst ∈ sw_big := sw_big_in (List.mem_of_getElem? (i := 37) (by decide +kernel)) (by decide +kernel)
theorem kc_X12_looksOn : Cond.code yX12_looksOn cX12_looksOn 2 (some .boolean) ∈ sw_big := sw_big_in (List.mem_of_getElem? (i := 1176) (by decide +kernel)) (by decide +kernel)
theorem ki_X12_looksOn : Cond.instanceMethod yX12_looksOn ∈ sw_big := sw_big_in (List.mem_of_getElem? (i := 1175) (by decide +kernel)) (by decide +kernel)
theorem kv_X12_looksOn : Cond.selects RX12 yX12_looksOn yX12_looksOn ∈ sw_big := sw_big_in (List.mem_of_getElem? (i := 40) (by decide +kernel)) (by decide +kernel)
theorem kc_X12_isAnswer : Cond.code yX12_isAnswer cX12_isAnswer 1 (some .boolean) ∈ sw_big := sw_big_in (List.mem_of_getElem? (i := 1168) (by decide +kernel)) (by decide +kernel)
theorem ki_X12_isAnswer : Cond.instanceMethod yX12_isAnswer ∈ sw_big := sw_big_in (List.mem_of_getElem? (i := 1167) (by decide +kernel)) (by decide +kernel)
theorem kv_X12_isAnswer : Cond.selects RX12 yX12_isAnswer yX12_isAnswer ∈ sw_big := sw_big_in (List.mem_of_getElem? (i := 38) (by decide +kernel)) (by decide +kernel)
theorem kc_X12_answerComes : Cond.code yX12_answerComes cX12_answerComes 7 none ∈ sw_big := sw_big_in (List.mem_of_getElem? (i := 1172) (by decide +kernel)) (by decide +kernel)
theorem ki_X12_answerComes : Cond.instanceMethod yX12_answerComes ∈ sw_big := sw_big_in (List.mem_of_getElem? (i := 1171) (by decide +kernel)) (by decide +kernel)
theorem kv_X12_answerComes : Cond.selects RX12 yX12_answerComes yX12_answerComes ∈ sw_big := sw_big_in (List.mem_of_getElem? (i := 39) (by decide +kernel)) (by decide +kernel)
theorem kc_X12_layAnswers : Cond.code yX12_layAnswers cX12_layAnswers 2 none ∈ sw_big := sw_big_in (List.mem_of_getElem? (i := 1160) (by decide +kernel)) (by decide +kernel)
theorem ki_X12_layAnswers : Cond.instanceMethod yX12_layAnswers ∈ sw_big := sw_big_in (List.mem_of_getElem? (i := 1159) (by decide +kernel)) (by decide +kernel)
theorem kv_X12_layAnswers : Cond.selects RX12 yX12_layAnswers yX12_layAnswers ∈ sw_big := sw_big_in (List.mem_of_getElem? (i := 36) (by decide +kernel)) (by decide +kernel)
theorem kc_X12_answerBy : Cond.code yX12_answerBy cX12_answerBy 6 (some .int) ∈ sw_big := sw_big_in (List.mem_of_getElem? (i := 1196) (by decide +kernel)) (by decide +kernel)
theorem ki_X12_answerBy : Cond.instanceMethod yX12_answerBy ∈ sw_big := sw_big_in (List.mem_of_getElem? (i := 1195) (by decide +kernel)) (by decide +kernel)
theorem kv_X12_answerBy : Cond.selects RX12 yX12_answerBy yX12_answerBy ∈ sw_big := sw_big_in (List.mem_of_getElem? (i := 42) (by decide +kernel)) (by decide +kernel)
theorem kc_X12_looksAnswer : Cond.code yX12_looksAnswer cX12_looksAnswer 3 none ∈ sw_big := sw_big_in (List.mem_of_getElem? (i := 1188) (by decide +kernel)) (by decide +kernel)
theorem ki_X12_looksAnswer : Cond.instanceMethod yX12_looksAnswer ∈ sw_big := sw_big_in (List.mem_of_getElem? (i := 1187) (by decide +kernel)) (by decide +kernel)
theorem kv_X12_looksAnswer : Cond.selects RX12 yX12_looksAnswer yX12_looksAnswer ∈ sw_big := sw_big_in (List.mem_of_getElem? (i := 41) (by decide +kernel)) (by decide +kernel)
theorem kc_X12_layGroups : Cond.code yX12_layGroups cX12_layGroups 5 none ∈ sw_big := sw_big_in (List.mem_of_getElem? (i := 1204) (by decide +kernel)) (by decide +kernel)
theorem ki_X12_layGroups : Cond.instanceMethod yX12_layGroups ∈ sw_big := sw_big_in (List.mem_of_getElem? (i := 1203) (by decide +kernel)) (by decide +kernel)
theorem kv_X12_layGroups : Cond.selects RX12 yX12_layGroups yX12_layGroups ∈ sw_big := sw_big_in (List.mem_of_getElem? (i := 43) (by decide +kernel)) (by decide +kernel)
theorem kc_X12_groupNumber : Cond.code yX12_groupNumber cX12_groupNumber 4 (some .int) ∈ sw_big := sw_big_in (List.mem_of_getElem? (i := 1212) (by decide +kernel)) (by decide +kernel)
theorem ki_X12_groupNumber : Cond.instanceMethod yX12_groupNumber ∈ sw_big := sw_big_in (List.mem_of_getElem? (i := 1211) (by decide +kernel)) (by decide +kernel)
theorem kv_X12_groupNumber : Cond.selects RX12 yX12_groupNumber yX12_groupNumber ∈ sw_big := sw_big_in (List.mem_of_getElem? (i := 44) (by decide +kernel)) (by decide +kernel)
theorem kc_X12_answers : Cond.code yX12_answers cX12_answers 1 (some .int) ∈ sw_big := sw_big_in (List.mem_of_getElem? (i := 1156) (by decide +kernel)) (by decide +kernel)
theorem ki_X12_answers : Cond.instanceMethod yX12_answers ∈ sw_big := sw_big_in (List.mem_of_getElem? (i := 1154) (by decide +kernel)) (by decide +kernel)
theorem kv_X12_answers : Cond.selects RX12 yX12_answers yX12_answers ∈ sw_big := sw_big_in (List.mem_of_getElem? (i := 1155) (by decide +kernel)) (by decide +kernel)
theorem kc_X12_answer : Cond.code yX12_answer cX12_answer 3 (some .long) ∈ sw_big := sw_big_in (List.mem_of_getElem? (i := 1180) (by decide +kernel)) (by decide +kernel)
theorem ki_X12_answer : Cond.instanceMethod yX12_answer ∈ sw_big := sw_big_in (List.mem_of_getElem? (i := 1178) (by decide +kernel)) (by decide +kernel)
theorem kv_X12_answer : Cond.selects RX12 yX12_answer yX12_answer ∈ sw_big := sw_big_in (List.mem_of_getElem? (i := 1179) (by decide +kernel)) (by decide +kernel)
theorem kc_X12_take : Cond.code yX12_take cX12_take 3 (some .int) ∈ sw_big := sw_big_in (List.mem_of_getElem? (i := 1184) (by decide +kernel)) (by decide +kernel)
theorem ki_X12_take : Cond.instanceMethod yX12_take ∈ sw_big := sw_big_in (List.mem_of_getElem? (i := 1182) (by decide +kernel)) (by decide +kernel)
theorem kv_X12_take : Cond.selects RX12 yX12_take yX12_take ∈ sw_big := sw_big_in (List.mem_of_getElem? (i := 1183) (by decide +kernel)) (by decide +kernel)
theorem kc_X12_which : Cond.code yX12_which cX12_which 2 (some .int) ∈ sw_big := sw_big_in (List.mem_of_getElem? (i := 1192) (by decide +kernel)) (by decide +kernel)
theorem ki_X12_which : Cond.instanceMethod yX12_which ∈ sw_big := sw_big_in (List.mem_of_getElem? (i := 1190) (by decide +kernel)) (by decide +kernel)
theorem kv_X12_which : Cond.selects RX12 yX12_which yX12_which ∈ sw_big := sw_big_in (List.mem_of_getElem? (i := 1191) (by decide +kernel)) (by decide +kernel)
theorem kc_X12_groups : Cond.code yX12_groups cX12_groups 3 (some .int) ∈ sw_big := sw_big_in (List.mem_of_getElem? (i := 1200) (by decide +kernel)) (by decide +kernel)
theorem ki_X12_groups : Cond.instanceMethod yX12_groups ∈ sw_big := sw_big_in (List.mem_of_getElem? (i := 1198) (by decide +kernel)) (by decide +kernel)
theorem kv_X12_groups : Cond.selects RX12 yX12_groups yX12_groups ∈ sw_big := sw_big_in (List.mem_of_getElem? (i := 1199) (by decide +kernel)) (by decide +kernel)
theorem kc_X12_groupOf : Cond.code yX12_groupOf cX12_groupOf 2 (some .int) ∈ sw_big := sw_big_in (List.mem_of_getElem? (i := 1208) (by decide +kernel)) (by decide +kernel)
theorem ki_X12_groupOf : Cond.instanceMethod yX12_groupOf ∈ sw_big := sw_big_in (List.mem_of_getElem? (i := 1206) (by decide +kernel)) (by decide +kernel)
theorem kv_X12_groupOf : Cond.selects RX12 yX12_groupOf yX12_groupOf ∈ sw_big := sw_big_in (List.mem_of_getElem? (i := 1207) (by decide +kernel)) (by decide +kernel)
theorem kc_X12_group : Cond.code yX12_group cX12_group 7 (some .int) ∈ sw_big := sw_big_in (List.mem_of_getElem? (i := 1216) (by decide +kernel)) (by decide +kernel)
theorem ki_X12_group : Cond.instanceMethod yX12_group ∈ sw_big := sw_big_in (List.mem_of_getElem? (i := 1214) (by decide +kernel)) (by decide +kernel)
theorem kv_X12_group : Cond.selects RX12 yX12_group yX12_group ∈ sw_big := sw_big_in (List.mem_of_getElem? (i := 1215) (by decide +kernel)) (by decide +kernel)
theorem kc_X12_draw : Cond.code yX12_draw cX12_draw 2 (some .int) ∈ sw_big := sw_big_in (List.mem_of_getElem? (i := 1224) (by decide +kernel)) (by decide +kernel)
theorem ki_X12_draw : Cond.instanceMethod yX12_draw ∈ sw_big := sw_big_in (List.mem_of_getElem? (i := 1223) (by decide +kernel)) (by decide +kernel)
theorem kv_X12_draw : Cond.selects RX12 yX12_draw yX12_draw ∈ sw_big := sw_big_in (List.mem_of_getElem? (i := 45) (by decide +kernel)) (by decide +kernel)
theorem kc_X12_lots : Cond.code yX12_lots cX12_lots 6 (some .int) ∈ sw_big := sw_big_in (List.mem_of_getElem? (i := 1220) (by decide +kernel)) (by decide +kernel)
theorem ki_X12_lots : Cond.instanceMethod yX12_lots ∈ sw_big := sw_big_in (List.mem_of_getElem? (i := 1218) (by decide +kernel)) (by decide +kernel)
theorem kv_X12_lots : Cond.selects RX12 yX12_lots yX12_lots ∈ sw_big := sw_big_in (List.mem_of_getElem? (i := 1219) (by decide +kernel)) (by decide +kernel)
theorem kc_X12_isSieve : Cond.code yX12_isSieve cX12_isSieve 1 (some .boolean) ∈ sw_big := sw_big_in (List.mem_of_getElem? (i := 1234) (by decide +kernel)) (by decide +kernel)
theorem ks_X12_isSieve : Cond.static yX12_isSieve ∈ sw_big := sw_big_in (List.mem_of_getElem? (i := 1233) (by decide +kernel)) (by decide +kernel)
theorem kc_X12_forgets : Cond.code yX12_forgets cX12_forgets 4 (some .int) ∈ sw_big := sw_big_in (List.mem_of_getElem? (i := 1046) (by decide +kernel)) (by decide +kernel)
theorem ki_X12_forgets : Cond.instanceMethod yX12_forgets ∈ sw_big := sw_big_in (List.mem_of_getElem? (i := 1045) (by decide +kernel)) (by decide +kernel)
theorem kv_X12_forgets : Cond.selects RX12 yX12_forgets yX12_forgets ∈ sw_big := sw_big_in (List.mem_of_getElem? (i := 25) (by decide +kernel)) (by decide +kernel)
theorem kc_X12_sieve : Cond.code yX12_sieve cX12_sieve 4 (some .int) ∈ sw_big := sw_big_in (List.mem_of_getElem? (i := 1231) (by decide +kernel)) (by decide +kernel)
theorem ki_X12_sieve : Cond.instanceMethod yX12_sieve ∈ sw_big := sw_big_in (List.mem_of_getElem? (i := 1229) (by decide +kernel)) (by decide +kernel)
theorem kv_X12_sieve : Cond.selects RX12 yX12_sieve yX12_sieve ∈ sw_big := sw_big_in (List.mem_of_getElem? (i := 1230) (by decide +kernel)) (by decide +kernel)
theorem kc_X12_sieveOf : Cond.code yX12_sieveOf cX12_sieveOf 2 (some .int) ∈ sw_big := sw_big_in (List.mem_of_getElem? (i := 1238) (by decide +kernel)) (by decide +kernel)
theorem ki_X12_sieveOf : Cond.instanceMethod yX12_sieveOf ∈ sw_big := sw_big_in (List.mem_of_getElem? (i := 1236) (by decide +kernel)) (by decide +kernel)
theorem kv_X12_sieveOf : Cond.selects RX12 yX12_sieveOf yX12_sieveOf ∈ sw_big := sw_big_in (List.mem_of_getElem? (i := 1237) (by decide +kernel)) (by decide +kernel)
theorem kc_X12_forget : Cond.code yX12_forget cX12_forget 2 (some .int) ∈ sw_big := sw_big_in (List.mem_of_getElem? (i := 1242) (by decide +kernel)) (by decide +kernel)
theorem ki_X12_forget : Cond.instanceMethod yX12_forget ∈ sw_big := sw_big_in (List.mem_of_getElem? (i := 1240) (by decide +kernel)) (by decide +kernel)
theorem kv_X12_forget : Cond.selects RX12 yX12_forget yX12_forget ∈ sw_big := sw_big_in (List.mem_of_getElem? (i := 1241) (by decide +kernel)) (by decide +kernel)
theorem kc_X12_order : Cond.code yX12_order cX12_order 5 (some .int) ∈ sw_big := sw_big_in (List.mem_of_getElem? (i := 1246) (by decide +kernel)) (by decide +kernel)
theorem ki_X12_order : Cond.instanceMethod yX12_order ∈ sw_big := sw_big_in (List.mem_of_getElem? (i := 1244) (by decide +kernel)) (by decide +kernel)
theorem kv_X12_order : Cond.selects RX12 yX12_order yX12_order ∈ sw_big := sw_big_in (List.mem_of_getElem? (i := 1245) (by decide +kernel)) (by decide +kernel)
theorem kc_X12_reaches : Cond.code yX12_reaches cX12_reaches 7 (some .int) ∈ sw_big := sw_big_in (List.mem_of_getElem? (i := 1254) (by decide +kernel)) (by decide +kernel)
theorem ki_X12_reaches : Cond.instanceMethod yX12_reaches ∈ sw_big := sw_big_in (List.mem_of_getElem? (i := 1253) (by decide +kernel)) (by decide +kernel)
theorem kv_X12_reaches : Cond.selects RX12 yX12_reaches yX12_reaches ∈ sw_big := sw_big_in (List.mem_of_getElem? (i := 46) (by decide +kernel)) (by decide +kernel)
theorem kc_X12_reach : Cond.code yX12_reach cX12_reach 2 (some .int) ∈ sw_big := sw_big_in (List.mem_of_getElem? (i := 1250) (by decide +kernel)) (by decide +kernel)
theorem ki_X12_reach : Cond.instanceMethod yX12_reach ∈ sw_big := sw_big_in (List.mem_of_getElem? (i := 1248) (by decide +kernel)) (by decide +kernel)
theorem kv_X12_reach : Cond.selects RX12 yX12_reach yX12_reach ∈ sw_big := sw_big_in (List.mem_of_getElem? (i := 1249) (by decide +kernel)) (by decide +kernel)
theorem kc_X12_inverse : Cond.code yX12_inverse cX12_inverse 3 (some .int) ∈ sw_big := sw_big_in (List.mem_of_getElem? (i := 1265) (by decide +kernel)) (by decide +kernel)
theorem ks_X12_inverse : Cond.static yX12_inverse ∈ sw_big := sw_big_in (List.mem_of_getElem? (i := 1264) (by decide +kernel)) (by decide +kernel)
theorem kc_X12_layInverses : Cond.code yX12_layInverses cX12_layInverses 3 none ∈ sw_big := sw_big_in (List.mem_of_getElem? (i := 1262) (by decide +kernel)) (by decide +kernel)
theorem ki_X12_layInverses : Cond.instanceMethod yX12_layInverses ∈ sw_big := sw_big_in (List.mem_of_getElem? (i := 1261) (by decide +kernel)) (by decide +kernel)
theorem kv_X12_layInverses : Cond.selects RX12 yX12_layInverses yX12_layInverses ∈ sw_big := sw_big_in (List.mem_of_getElem? (i := 47) (by decide +kernel)) (by decide +kernel)
theorem kc_X12_isPassing : Cond.code yX12_isPassing cX12_isPassing 6 (some .boolean) ∈ sw_big := sw_big_in (List.mem_of_getElem? (i := 1269) (by decide +kernel)) (by decide +kernel)
theorem ki_X12_isPassing : Cond.instanceMethod yX12_isPassing ∈ sw_big := sw_big_in (List.mem_of_getElem? (i := 1268) (by decide +kernel)) (by decide +kernel)
theorem kv_X12_isPassing : Cond.selects RX12 yX12_isPassing yX12_isPassing ∈ sw_big := sw_big_in (List.mem_of_getElem? (i := 48) (by decide +kernel)) (by decide +kernel)
theorem kc_X12_passes : Cond.code yX12_passes cX12_passes 4 (some .int) ∈ sw_big := sw_big_in (List.mem_of_getElem? (i := 1258) (by decide +kernel)) (by decide +kernel)
theorem ki_X12_passes : Cond.instanceMethod yX12_passes ∈ sw_big := sw_big_in (List.mem_of_getElem? (i := 1256) (by decide +kernel)) (by decide +kernel)
theorem kv_X12_passes : Cond.selects RX12 yX12_passes yX12_passes ∈ sw_big := sw_big_in (List.mem_of_getElem? (i := 1257) (by decide +kernel)) (by decide +kernel)
theorem kc_X12_left : Cond.code yX12_left cX12_left 6 (some .int) ∈ sw_big := sw_big_in (List.mem_of_getElem? (i := 1273) (by decide +kernel)) (by decide +kernel)
theorem ki_X12_left : Cond.instanceMethod yX12_left ∈ sw_big := sw_big_in (List.mem_of_getElem? (i := 1271) (by decide +kernel)) (by decide +kernel)
theorem kv_X12_left : Cond.selects RX12 yX12_left yX12_left ∈ sw_big := sw_big_in (List.mem_of_getElem? (i := 1272) (by decide +kernel)) (by decide +kernel)
theorem kc_X12_feed : Cond.code yX12_feed cX12_feed 2 (some .int) ∈ sw_big := sw_big_in (List.mem_of_getElem? (i := 1277) (by decide +kernel)) (by decide +kernel)
theorem ki_X12_feed : Cond.instanceMethod yX12_feed ∈ sw_big := sw_big_in (List.mem_of_getElem? (i := 1275) (by decide +kernel)) (by decide +kernel)
theorem kv_X12_feed : Cond.selects RX12 yX12_feed yX12_feed ∈ sw_big := sw_big_in (List.mem_of_getElem? (i := 1276) (by decide +kernel)) (by decide +kernel)
theorem kc_X12_wipe : Cond.code yX12_wipe cX12_wipe 2 (some .int) ∈ sw_big := sw_big_in (List.mem_of_getElem? (i := 1281) (by decide +kernel)) (by decide +kernel)
theorem ki_X12_wipe : Cond.instanceMethod yX12_wipe ∈ sw_big := sw_big_in (List.mem_of_getElem? (i := 1279) (by decide +kernel)) (by decide +kernel)
theorem kv_X12_wipe : Cond.selects RX12 yX12_wipe yX12_wipe ∈ sw_big := sw_big_in (List.mem_of_getElem? (i := 1280) (by decide +kernel)) (by decide +kernel)
theorem kc_X12_takes : Cond.code yX12_takes cX12_takes 2 (some .boolean) ∈ sw_big := sw_big_in (List.mem_of_getElem? (i := 1293) (by decide +kernel)) (by decide +kernel)
theorem ki_X12_takes : Cond.instanceMethod yX12_takes ∈ sw_big := sw_big_in (List.mem_of_getElem? (i := 1292) (by decide +kernel)) (by decide +kernel)
theorem kv_X12_takes : Cond.selects RX12 yX12_takes yX12_takes ∈ sw_big := sw_big_in (List.mem_of_getElem? (i := 50) (by decide +kernel)) (by decide +kernel)
theorem kc_X12_isHere : Cond.code yX12_isHere cX12_isHere 3 (some .boolean) ∈ sw_big := sw_big_in (List.mem_of_getElem? (i := 1301) (by decide +kernel)) (by decide +kernel)
theorem ki_X12_isHere : Cond.instanceMethod yX12_isHere ∈ sw_big := sw_big_in (List.mem_of_getElem? (i := 1300) (by decide +kernel)) (by decide +kernel)
theorem kv_X12_isHere : Cond.selects RX12 yX12_isHere yX12_isHere ∈ sw_big := sw_big_in (List.mem_of_getElem? (i := 52) (by decide +kernel)) (by decide +kernel)
theorem kc_X12_readFactor : Cond.code yX12_readFactor cX12_readFactor 4 (some .boolean) ∈ sw_big := sw_big_in (List.mem_of_getElem? (i := 1297) (by decide +kernel)) (by decide +kernel)
theorem ki_X12_readFactor : Cond.instanceMethod yX12_readFactor ∈ sw_big := sw_big_in (List.mem_of_getElem? (i := 1296) (by decide +kernel)) (by decide +kernel)
theorem kv_X12_readFactor : Cond.selects RX12 yX12_readFactor yX12_readFactor ∈ sw_big := sw_big_in (List.mem_of_getElem? (i := 51) (by decide +kernel)) (by decide +kernel)
theorem kc_X12_readUnit : Cond.code yX12_readUnit cX12_readUnit 2 (some .boolean) ∈ sw_big := sw_big_in (List.mem_of_getElem? (i := 1289) (by decide +kernel)) (by decide +kernel)
theorem ki_X12_readUnit : Cond.instanceMethod yX12_readUnit ∈ sw_big := sw_big_in (List.mem_of_getElem? (i := 1288) (by decide +kernel)) (by decide +kernel)
theorem kv_X12_readUnit : Cond.selects RX12 yX12_readUnit yX12_readUnit ∈ sw_big := sw_big_in (List.mem_of_getElem? (i := 49) (by decide +kernel)) (by decide +kernel)
theorem kc_X12_read : Cond.code yX12_read cX12_read 3 (some .int) ∈ sw_big := sw_big_in (List.mem_of_getElem? (i := 1285) (by decide +kernel)) (by decide +kernel)
theorem ki_X12_read : Cond.instanceMethod yX12_read ∈ sw_big := sw_big_in (List.mem_of_getElem? (i := 1283) (by decide +kernel)) (by decide +kernel)
theorem kv_X12_read : Cond.selects RX12 yX12_read yX12_read ∈ sw_big := sw_big_in (List.mem_of_getElem? (i := 1284) (by decide +kernel)) (by decide +kernel)
theorem kc_X12_writes : Cond.code yX12_writes cX12_writes 2 none ∈ sw_big := sw_big_in (List.mem_of_getElem? (i := 1309) (by decide +kernel)) (by decide +kernel)
theorem ki_X12_writes : Cond.instanceMethod yX12_writes ∈ sw_big := sw_big_in (List.mem_of_getElem? (i := 1308) (by decide +kernel)) (by decide +kernel)
theorem kv_X12_writes : Cond.selects RX12 yX12_writes yX12_writes ∈ sw_big := sw_big_in (List.mem_of_getElem? (i := 53) (by decide +kernel)) (by decide +kernel)
theorem kc_X12_writesPower : Cond.code yX12_writesPower cX12_writesPower 3 none ∈ sw_big := sw_big_in (List.mem_of_getElem? (i := 1313) (by decide +kernel)) (by decide +kernel)
theorem ki_X12_writesPower : Cond.instanceMethod yX12_writesPower ∈ sw_big := sw_big_in (List.mem_of_getElem? (i := 1312) (by decide +kernel)) (by decide +kernel)
theorem kv_X12_writesPower : Cond.selects RX12 yX12_writesPower yX12_writesPower ∈ sw_big := sw_big_in (List.mem_of_getElem? (i := 54) (by decide +kernel)) (by decide +kernel)
theorem kc_X12_spelled : Cond.code yX12_spelled cX12_spelled 5 (some .int) ∈ sw_big := sw_big_in (List.mem_of_getElem? (i := 1305) (by decide +kernel)) (by decide +kernel)
theorem ki_X12_spelled : Cond.instanceMethod yX12_spelled ∈ sw_big := sw_big_in (List.mem_of_getElem? (i := 1303) (by decide +kernel)) (by decide +kernel)
theorem kv_X12_spelled : Cond.selects RX12 yX12_spelled yX12_spelled ∈ sw_big := sw_big_in (List.mem_of_getElem? (i := 1304) (by decide +kernel)) (by decide +kernel)
theorem kc_X12_isList : Cond.code yX12_isList cX12_isList 1 (some .boolean) ∈ sw_big := sw_big_in (List.mem_of_getElem? (i := 1320) (by decide +kernel)) (by decide +kernel)
theorem ks_X12_isList : Cond.static yX12_isList ∈ sw_big := sw_big_in (List.mem_of_getElem? (i := 1319) (by decide +kernel)) (by decide +kernel)
theorem kc_X12_list : Cond.code yX12_list cX12_list 4 (some .int) ∈ sw_big := sw_big_in (List.mem_of_getElem? (i := 1317) (by decide +kernel)) (by decide +kernel)
theorem ki_X12_list : Cond.instanceMethod yX12_list ∈ sw_big := sw_big_in (List.mem_of_getElem? (i := 1315) (by decide +kernel)) (by decide +kernel)
theorem kv_X12_list : Cond.selects RX12 yX12_list yX12_list ∈ sw_big := sw_big_in (List.mem_of_getElem? (i := 1316) (by decide +kernel)) (by decide +kernel)
theorem kc_X12_lay : Cond.code yX12_lay cX12_lay 5 (some .int) ∈ sw_big := sw_big_in (List.mem_of_getElem? (i := 1324) (by decide +kernel)) (by decide +kernel)
theorem ki_X12_lay : Cond.instanceMethod yX12_lay ∈ sw_big := sw_big_in (List.mem_of_getElem? (i := 1322) (by decide +kernel)) (by decide +kernel)
theorem kv_X12_lay : Cond.selects RX12 yX12_lay yX12_lay ∈ sw_big := sw_big_in (List.mem_of_getElem? (i := 1323) (by decide +kernel)) (by decide +kernel)
theorem kc_X12_get : Cond.code yX12_get cX12_get 3 (some .long) ∈ sw_big := sw_big_in (List.mem_of_getElem? (i := 1328) (by decide +kernel)) (by decide +kernel)
theorem ki_X12_get : Cond.instanceMethod yX12_get ∈ sw_big := sw_big_in (List.mem_of_getElem? (i := 1326) (by decide +kernel)) (by decide +kernel)
theorem kv_X12_get : Cond.selects RX12 yX12_get yX12_get ∈ sw_big := sw_big_in (List.mem_of_getElem? (i := 1327) (by decide +kernel)) (by decide +kernel)
theorem kc_X12_film : Cond.code yX12_film cX12_film 5 (some .int) ∈ sw_big := sw_big_in (List.mem_of_getElem? (i := 1332) (by decide +kernel)) (by decide +kernel)
theorem ki_X12_film : Cond.instanceMethod yX12_film ∈ sw_big := sw_big_in (List.mem_of_getElem? (i := 1330) (by decide +kernel)) (by decide +kernel)
theorem kv_X12_film : Cond.selects RX12 yX12_film yX12_film ∈ sw_big := sw_big_in (List.mem_of_getElem? (i := 1331) (by decide +kernel)) (by decide +kernel)
theorem kc_X12_judge : Cond.code yX12_judge cX12_judge 4 (some .int) ∈ sw_big := sw_big_in (List.mem_of_getElem? (i := 1336) (by decide +kernel)) (by decide +kernel)
theorem ki_X12_judge : Cond.instanceMethod yX12_judge ∈ sw_big := sw_big_in (List.mem_of_getElem? (i := 1334) (by decide +kernel)) (by decide +kernel)
theorem kv_X12_judge : Cond.selects RX12 yX12_judge yX12_judge ∈ sw_big := sw_big_in (List.mem_of_getElem? (i := 1335) (by decide +kernel)) (by decide +kernel)
theorem kc_X12_image : Cond.code yX12_image cX12_image 2 (some .int) ∈ sw_big := sw_big_in (List.mem_of_getElem? (i := 1340) (by decide +kernel)) (by decide +kernel)
theorem ki_X12_image : Cond.instanceMethod yX12_image ∈ sw_big := sw_big_in (List.mem_of_getElem? (i := 1338) (by decide +kernel)) (by decide +kernel)
theorem kv_X12_image : Cond.selects RX12 yX12_image yX12_image ∈ sw_big := sw_big_in (List.mem_of_getElem? (i := 1339) (by decide +kernel)) (by decide +kernel)
theorem kc_X12_undo : Cond.code yX12_undo cX12_undo 2 (some .int) ∈ sw_big := sw_big_in (List.mem_of_getElem? (i := 1344) (by decide +kernel)) (by decide +kernel)
theorem ki_X12_undo : Cond.instanceMethod yX12_undo ∈ sw_big := sw_big_in (List.mem_of_getElem? (i := 1342) (by decide +kernel)) (by decide +kernel)
theorem kv_X12_undo : Cond.selects RX12 yX12_undo yX12_undo ∈ sw_big := sw_big_in (List.mem_of_getElem? (i := 1343) (by decide +kernel)) (by decide +kernel)
theorem kc_X12_count : Cond.code yX12_count cX12_count 4 (some .int) ∈ sw_big := sw_big_in (List.mem_of_getElem? (i := 1348) (by decide +kernel)) (by decide +kernel)
theorem ki_X12_count : Cond.instanceMethod yX12_count ∈ sw_big := sw_big_in (List.mem_of_getElem? (i := 1346) (by decide +kernel)) (by decide +kernel)
theorem kv_X12_count : Cond.selects RX12 yX12_count yX12_count ∈ sw_big := sw_big_in (List.mem_of_getElem? (i := 1347) (by decide +kernel)) (by decide +kernel)
theorem kc_J9_floorMod_7cf53 : Cond.code yJ9_floorMod_7cf53 cJ9_floorMod_7cf53 3 (some .int) ∈ sw_big := sw_big_in (List.mem_of_getElem? (i := 756) (by decide +kernel)) (by decide +kernel)
theorem ks_J9_floorMod_7cf53 : Cond.static yJ9_floorMod_7cf53 ∈ sw_big := sw_big_in (List.mem_of_getElem? (i := 755) (by decide +kernel)) (by decide +kernel)
theorem kn_RJ9 : Cond.initialized RJ9 ∈ sw_big := sw_big_in (List.mem_of_getElem? (i := 66) (by decide +kernel)) (by decide +kernel)
theorem kc_J9_abs_0f7a4 : Cond.code yJ9_abs_0f7a4 cJ9_abs_0f7a4 1 (some .int) ∈ sw_big := sw_big_in (List.mem_of_getElem? (i := 485) (by decide +kernel)) (by decide +kernel)
theorem ks_J9_abs_0f7a4 : Cond.static yJ9_abs_0f7a4 ∈ sw_big := sw_big_in (List.mem_of_getElem? (i := 484) (by decide +kernel)) (by decide +kernel)
theorem kc_J9_abs_067f4 : Cond.code yJ9_abs_067f4 cJ9_abs_067f4 2 (some .long) ∈ sw_big := sw_big_in (List.mem_of_getElem? (i := 545) (by decide +kernel)) (by decide +kernel)
theorem ks_J9_abs_067f4 : Cond.static yJ9_abs_067f4 ∈ sw_big := sw_big_in (List.mem_of_getElem? (i := 544) (by decide +kernel)) (by decide +kernel)
theorem kc_J9_max_7cf53 : Cond.code yJ9_max_7cf53 cJ9_max_7cf53 2 (some .int) ∈ sw_big := sw_big_in (List.mem_of_getElem? (i := 274) (by decide +kernel)) (by decide +kernel)
theorem ks_J9_max_7cf53 : Cond.static yJ9_max_7cf53 ∈ sw_big := sw_big_in (List.mem_of_getElem? (i := 273) (by decide +kernel)) (by decide +kernel)
theorem kc_J9_min_7cf53 : Cond.code yJ9_min_7cf53 cJ9_min_7cf53 2 (some .int) ∈ sw_big := sw_big_in (List.mem_of_getElem? (i := 737) (by decide +kernel)) (by decide +kernel)
theorem ks_J9_min_7cf53 : Cond.static yJ9_min_7cf53 ∈ sw_big := sw_big_in (List.mem_of_getElem? (i := 736) (by decide +kernel)) (by decide +kernel)
theorem kc_J7_fill_d0a16 : Cond.code yJ7_fill_d0a16 cJ7_fill_d0a16 5 none ∈ sw_big := sw_big_in (List.mem_of_getElem? (i := 855) (by decide +kernel)) (by decide +kernel)
theorem ks_J7_fill_d0a16 : Cond.static yJ7_fill_d0a16 ∈ sw_big := sw_big_in (List.mem_of_getElem? (i := 854) (by decide +kernel)) (by decide +kernel)
theorem kn_RJ7 : Cond.initialized RJ7 ∈ sw_big := sw_big_in (List.mem_of_getElem? (i := 69) (by decide +kernel)) (by decide +kernel)
theorem kc_J7_fill_53178 : Cond.code yJ7_fill_53178 cJ7_fill_53178 4 none ∈ sw_big := sw_big_in (List.mem_of_getElem? (i := 311) (by decide +kernel)) (by decide +kernel)
theorem ks_J7_fill_53178 : Cond.static yJ7_fill_53178 ∈ sw_big := sw_big_in (List.mem_of_getElem? (i := 310) (by decide +kernel)) (by decide +kernel)
theorem ka_nat : Cond.native arraycopyName ∈ sw_big := sw_big_in (List.mem_of_getElem? (i := 517) (by decide +kernel)) (by decide +kernel)
theorem ka_sta : Cond.static arraycopyName ∈ sw_big := sw_big_in (List.mem_of_getElem? (i := 516) (by decide +kernel)) (by decide +kernel)
theorem ka_ini : Cond.initialized "java/lang/System" ∈ sw_big := sw_big_in (List.mem_of_getElem? (i := 71) (by decide +kernel)) (by decide +kernel)
theorem gf_RX0_32 : sw_gf RX0 32 0 5 := ⟨RX0, TX0, 7, cf_0, by decide, sw_big_in (List.mem_of_getElem? (i := 200) (by decide +kernel)) (by decide +kernel), Or.inr trivial⟩
theorem lk_RX0_36 : sw_mv RX0 36 mX0_has 0 1 := ⟨_, _, rfl, ⟨sw_big_in (List.mem_of_getElem? (i := 638) (by decide +kernel)) (by decide +kernel), ki_X0_has, kv_X0_has, kn_RX0, kc_X0_has⟩, ⟨by decide +kernel, by decide +kernel, by decide +kernel⟩, by decide⟩
theorem kk_RX0_40 : Cond.constantLong RX0 40 (-9223372036854775808) ∈ sw_big := sw_big_in (List.mem_of_getElem? (i := 642) (by decide +kernel)) (by decide +kernel)
theorem gf_RX0_9 : sw_gf RX0 9 0 0 := ⟨RX0, TX0, 7, cf_0, by decide, sw_big_in (List.mem_of_getElem? (i := 192) (by decide +kernel)) (by decide +kernel), Or.inr trivial⟩
theorem gf_RX0_15 : sw_gf RX0 15 0 1 := ⟨RX0, TX0, 7, cf_0, by decide, sw_big_in (List.mem_of_getElem? (i := 194) (by decide +kernel)) (by decide +kernel), Or.inr trivial⟩
theorem pf_RX0_32 : sw_pf RX0 32 0 5 := ⟨RX0, TX0, 7, cf_0, by decide, sw_big_in (List.mem_of_getElem? (i := 200) (by decide +kernel)) (by decide +kernel), rfl⟩
theorem pf_RX0_42 : sw_pf RX0 42 0 6 := ⟨RX0, TX0, 7, cf_0, by decide, sw_big_in (List.mem_of_getElem? (i := 202) (by decide +kernel)) (by decide +kernel), rfl⟩
theorem lk_RX0_45 : sw_ms RX0 45 mX0_spread 5 := ⟨⟨sw_big_in (List.mem_of_getElem? (i := 596) (by decide +kernel)) (by decide +kernel), ks_X0_spread, kn_RX0, kc_X0_spread⟩, ⟨by decide +kernel, by decide +kernel, by decide +kernel⟩, by decide⟩
theorem lk_RX0_49 : sw_mv RX0 49 mX0_numberGroups 0 0 := ⟨_, _, rfl, ⟨sw_big_in (List.mem_of_getElem? (i := 625) (by decide +kernel)) (by decide +kernel), ki_X0_numberGroups, kv_X0_numberGroups, kn_RX0, kc_X0_numberGroups⟩, ⟨by decide +kernel, by decide +kernel, by decide +kernel⟩, by decide⟩
theorem gf_RX0_52 : sw_gf RX0 52 1 2 := ⟨RX1, TX1, 3, cf_1, by decide, sw_big_in (List.mem_of_getElem? (i := 107) (by decide +kernel)) (by decide +kernel), Or.inr trivial⟩
theorem lk_RX0_55 : sw_mv RX0 55 mX0_tryGroupOf 0 3 := ⟨_, _, rfl, ⟨sw_big_in (List.mem_of_getElem? (i := 599) (by decide +kernel)) (by decide +kernel), ki_X0_tryGroupOf, kv_X0_tryGroupOf, kn_RX0, kc_X0_tryGroupOf⟩, ⟨by decide +kernel, by decide +kernel, by decide +kernel⟩, by decide⟩
theorem gf_RX0_59 : sw_gf RX0 59 1 0 := ⟨RX1, TX1, 3, cf_1, by decide, sw_big_in (List.mem_of_getElem? (i := 96) (by decide +kernel)) (by decide +kernel), Or.inr trivial⟩
theorem gf_RX0_62 : sw_gf RX0 62 1 1 := ⟨RX1, TX1, 3, cf_1, by decide, sw_big_in (List.mem_of_getElem? (i := 101) (by decide +kernel)) (by decide +kernel), Or.inr trivial⟩
theorem kk_RX0_65 : Cond.constantLong RX0 65 (2) ∈ sw_big := sw_big_in (List.mem_of_getElem? (i := 603) (by decide +kernel)) (by decide +kernel)
theorem lk_RX0_67 : sw_mv RX0 67 mX1_boxesHold 1 1 := ⟨_, _, rfl, ⟨sw_big_in (List.mem_of_getElem? (i := 604) (by decide +kernel)) (by decide +kernel), ki_X1_boxesHold, kv_X1_boxesHold, kn_RX1, kc_X1_boxesHold⟩, ⟨by decide +kernel, by decide +kernel, by decide +kernel⟩, by decide⟩
theorem gf_RX0_42 : sw_gf RX0 42 0 6 := ⟨RX0, TX0, 7, cf_0, by decide, sw_big_in (List.mem_of_getElem? (i := 202) (by decide +kernel)) (by decide +kernel), Or.inr trivial⟩
theorem gf_RX0_28 : sw_gf RX0 28 0 4 := ⟨RX0, TX0, 7, cf_0, by decide, sw_big_in (List.mem_of_getElem? (i := 199) (by decide +kernel)) (by decide +kernel), Or.inr trivial⟩
theorem lk_RX0_71 : sw_mv RX0 71 mX9_set 9 2 := ⟨_, _, rfl, ⟨sw_big_in (List.mem_of_getElem? (i := 609) (by decide +kernel)) (by decide +kernel), ki_X9_set, kv_X9_set, kn_RX9, kc_X9_set⟩, ⟨by decide +kernel, by decide +kernel, by decide +kernel⟩, by decide⟩
theorem lk_RX0_75 : sw_mv RX0 75 mX9_formAbove 9 1 := ⟨_, _, rfl, ⟨sw_big_in (List.mem_of_getElem? (i := 610) (by decide +kernel)) (by decide +kernel), ki_X9_formAbove, kv_X9_formAbove, kn_RX9, kc_X9_formAbove⟩, ⟨by decide +kernel, by decide +kernel, by decide +kernel⟩, by decide⟩
theorem lk_RX0_79 : sw_mv RX0 79 mX9_formBelow 9 1 := ⟨_, _, rfl, ⟨sw_big_in (List.mem_of_getElem? (i := 611) (by decide +kernel)) (by decide +kernel), ki_X9_formBelow, kv_X9_formBelow, kn_RX9, kc_X9_formBelow⟩, ⟨by decide +kernel, by decide +kernel, by decide +kernel⟩, by decide⟩
theorem lk_RX0_82 : sw_mv RX0 82 mX0_insert 0 3 := ⟨_, _, rfl, ⟨sw_big_in (List.mem_of_getElem? (i := 612) (by decide +kernel)) (by decide +kernel), ki_X0_insert, kv_X0_insert, kn_RX0, kc_X0_insert⟩, ⟨by decide +kernel, by decide +kernel, by decide +kernel⟩, by decide⟩
theorem lk_RX0_86 : sw_mv RX0 86 mX0_placeFor 0 2 := ⟨_, _, rfl, ⟨sw_big_in (List.mem_of_getElem? (i := 616) (by decide +kernel)) (by decide +kernel), ki_X0_placeFor, kv_X0_placeFor, kn_RX0, kc_X0_placeFor⟩, ⟨by decide +kernel, by decide +kernel, by decide +kernel⟩, by decide⟩
theorem lk_RX0_90 : sw_mv RX0 90 mX0_isAt 0 3 := ⟨_, _, rfl, ⟨sw_big_in (List.mem_of_getElem? (i := 620) (by decide +kernel)) (by decide +kernel), ki_X0_isAt, kv_X0_isAt, kn_RX0, kc_X0_isAt⟩, ⟨by decide +kernel, by decide +kernel, by decide +kernel⟩, by decide⟩
theorem lk_RX0_94 : sw_ac RX0 94 := ⟨sw_big_in (List.mem_of_getElem? (i := 624) (by decide +kernel)) (by decide +kernel), ka_nat, ka_sta, ka_ini⟩
theorem gf_RX0_18 : sw_gf RX0 18 0 2 := ⟨RX0, TX0, 7, cf_0, by decide, sw_big_in (List.mem_of_getElem? (i := 196) (by decide +kernel)) (by decide +kernel), Or.inr trivial⟩
theorem lk_RX0_100 : sw_mv RX0 100 mX10_above 10 1 := ⟨_, _, rfl, ⟨sw_big_in (List.mem_of_getElem? (i := 656) (by decide +kernel)) (by decide +kernel), ki_X10_above, kv_X10_above, kn_RX10, kc_X10_above⟩, ⟨by decide +kernel, by decide +kernel, by decide +kernel⟩, by decide⟩
theorem lk_RX0_105 : sw_mv RX0 105 mX10_below 10 1 := ⟨_, _, rfl, ⟨sw_big_in (List.mem_of_getElem? (i := 657) (by decide +kernel)) (by decide +kernel), ki_X10_below, kv_X10_below, kn_RX10, kc_X10_below⟩, ⟨by decide +kernel, by decide +kernel, by decide +kernel⟩, by decide⟩
theorem gf_RX0_22 : sw_gf RX0 22 0 3 := ⟨RX0, TX0, 7, cf_0, by decide, sw_big_in (List.mem_of_getElem? (i := 198) (by decide +kernel)) (by decide +kernel), Or.inr trivial⟩
theorem lk_RX0_107 : sw_ms RX0 107 mJ7_fill_53178 2 := ⟨⟨sw_big_in (List.mem_of_getElem? (i := 629) (by decide +kernel)) (by decide +kernel), ks_J7_fill_53178, kn_RJ7, kc_J7_fill_53178⟩, ⟨by decide +kernel, by decide +kernel, by decide +kernel⟩, by decide⟩
theorem gf_RX1_18 : sw_gf RX1 18 1 2 := ⟨RX1, TX1, 3, cf_1, by decide, sw_big_in (List.mem_of_getElem? (i := 103) (by decide +kernel)) (by decide +kernel), Or.inr trivial⟩
theorem gf_RX1_9 : sw_gf RX1 9 1 0 := ⟨RX1, TX1, 3, cf_1, by decide, sw_big_in (List.mem_of_getElem? (i := 92) (by decide +kernel)) (by decide +kernel), Or.inr trivial⟩
theorem gf_RX1_15 : sw_gf RX1 15 1 1 := ⟨RX1, TX1, 3, cf_1, by decide, sw_big_in (List.mem_of_getElem? (i := 98) (by decide +kernel)) (by decide +kernel), Or.inr trivial⟩
theorem pf_RX1_18 : sw_pf RX1 18 1 2 := ⟨RX1, TX1, 3, cf_1, by decide, sw_big_in (List.mem_of_getElem? (i := 103) (by decide +kernel)) (by decide +kernel), rfl⟩
theorem lk_RX1_22 : sw_mv RX1 22 mX1_has 1 1 := ⟨_, _, rfl, ⟨sw_big_in (List.mem_of_getElem? (i := 422) (by decide +kernel)) (by decide +kernel), ki_X1_has, kv_X1_has, kn_RX1, kc_X1_has⟩, ⟨by decide +kernel, by decide +kernel, by decide +kernel⟩, by decide⟩
theorem lk_RX1_26 : sw_msN RX1 26 mX11_divides 2 := ⟨⟨⟨RX11, by first | exact List.mem_cons_self | exact List.mem_cons_of_mem _ List.mem_cons_self⟩, ks_X11_divides, kn_RX11, kc_X11_divides⟩, ⟨by decide +kernel, by decide +kernel, by decide +kernel⟩, by decide⟩
theorem lk_RX1_30 : sw_ac RX1 30 := ⟨sw_big_in (List.mem_of_getElem? (i := 893) (by decide +kernel)) (by decide +kernel), ka_nat, ka_sta, ka_ini⟩
theorem lk_RX2_7 : sw_ms RX2 7 mJ9_max_7cf53 2 := ⟨⟨sw_big_in (List.mem_of_getElem? (i := 272) (by decide +kernel)) (by decide +kernel), ks_J9_max_7cf53, kn_RJ9, kc_J9_max_7cf53⟩, ⟨by decide +kernel, by decide +kernel, by decide +kernel⟩, by decide⟩
theorem gf_RX2_19 : sw_gf RX2 19 2 1 := ⟨RX2, TX2, 2, cf_2, by decide, sw_big_in (List.mem_of_getElem? (i := 276) (by decide +kernel)) (by decide +kernel), Or.inr trivial⟩
theorem gf_RX2_13 : sw_gf RX2 13 2 0 := ⟨RX2, TX2, 2, cf_2, by decide, sw_big_in (List.mem_of_getElem? (i := 275) (by decide +kernel)) (by decide +kernel), Or.inr trivial⟩
theorem pf_RX2_19 : sw_pf RX2 19 2 1 := ⟨RX2, TX2, 2, cf_2, by decide, sw_big_in (List.mem_of_getElem? (i := 276) (by decide +kernel)) (by decide +kernel), rfl⟩
theorem gf_RX3_20 : sw_gf RX3 20 3 1 := ⟨RX3, TX3, 3, cf_3, by decide, sw_big_in (List.mem_of_getElem? (i := 156) (by decide +kernel)) (by decide +kernel), Or.inr trivial⟩
theorem gf_RX3_12 : sw_gf RX3 12 3 0 := ⟨RX3, TX3, 3, cf_3, by decide, sw_big_in (List.mem_of_getElem? (i := 154) (by decide +kernel)) (by decide +kernel), Or.inr trivial⟩
theorem lk_RX3_32 : sw_mv RX3 32 mX1_insert 1 1 := ⟨_, _, rfl, ⟨sw_big_in (List.mem_of_getElem? (i := 386) (by decide +kernel)) (by decide +kernel), ki_X1_insert, kv_X1_insert, kn_RX1, kc_X1_insert⟩, ⟨by decide +kernel, by decide +kernel, by decide +kernel⟩, by decide⟩
theorem lk_RX3_36 : sw_mv RX3 36 mX10_insertPower 10 1 := ⟨_, _, rfl, ⟨sw_big_in (List.mem_of_getElem? (i := 390) (by decide +kernel)) (by decide +kernel), ki_X10_insertPower, kv_X10_insertPower, kn_RX10, kc_X10_insertPower⟩, ⟨by decide +kernel, by decide +kernel, by decide +kernel⟩, by decide⟩
theorem gf_RX3_27 : sw_gf RX3 27 3 2 := ⟨RX3, TX3, 3, cf_3, by decide, sw_big_in (List.mem_of_getElem? (i := 158) (by decide +kernel)) (by decide +kernel), Or.inr trivial⟩
theorem lk_RX3_40 : sw_mv RX3 40 mX7_remove 7 1 := ⟨_, _, rfl, ⟨sw_big_in (List.mem_of_getElem? (i := 394) (by decide +kernel)) (by decide +kernel), ki_X7_remove, kv_X7_remove, kn_RX7, kc_X7_remove⟩, ⟨by decide +kernel, by decide +kernel, by decide +kernel⟩, by decide⟩
theorem lk_RX3_44 : sw_mv RX3 44 mX1_removeAt 1 1 := ⟨_, _, rfl, ⟨sw_big_in (List.mem_of_getElem? (i := 418) (by decide +kernel)) (by decide +kernel), ki_X1_removeAt, kv_X1_removeAt, kn_RX1, kc_X1_removeAt⟩, ⟨by decide +kernel, by decide +kernel, by decide +kernel⟩, by decide⟩
theorem lk_RX3_47 : sw_mv RX3 47 mX10_removePower 10 1 := ⟨_, _, rfl, ⟨sw_big_in (List.mem_of_getElem? (i := 423) (by decide +kernel)) (by decide +kernel), ki_X10_removePower, kv_X10_removePower, kn_RX10, kc_X10_removePower⟩, ⟨by decide +kernel, by decide +kernel, by decide +kernel⟩, by decide⟩
theorem lk_RX3_50 : sw_mv RX3 50 mX1_copy 1 1 := ⟨_, _, rfl, ⟨sw_big_in (List.mem_of_getElem? (i := 889) (by decide +kernel)) (by decide +kernel), ki_X1_copy, kv_X1_copy, kn_RX1, kc_X1_copy⟩, ⟨by decide +kernel, by decide +kernel, by decide +kernel⟩, by decide⟩
theorem lk_RX3_54 : sw_mv RX3 54 mX7_copy 7 1 := ⟨_, _, rfl, ⟨sw_big_in (List.mem_of_getElem? (i := 894) (by decide +kernel)) (by decide +kernel), ki_X7_copy, kv_X7_copy, kn_RX7, kc_X7_copy⟩, ⟨by decide +kernel, by decide +kernel, by decide +kernel⟩, by decide⟩
theorem lk_RX3_57 : sw_mv RX3 57 mX10_copy 10 1 := ⟨_, _, rfl, ⟨sw_big_in (List.mem_of_getElem? (i := 899) (by decide +kernel)) (by decide +kernel), ki_X10_copy, kv_X10_copy, kn_RX10, kc_X10_copy⟩, ⟨by decide +kernel, by decide +kernel, by decide +kernel⟩, by decide⟩
theorem gf_RX4_16 : sw_gf RX4 16 4 1 := ⟨RX4, TX4, 2, cf_4, by decide, sw_big_in (List.mem_of_getElem? (i := 314) (by decide +kernel)) (by decide +kernel), Or.inr trivial⟩
theorem lk_RX4_20 : sw_ms RX4 20 mJ7_fill_53178 2 := ⟨⟨sw_big_in (List.mem_of_getElem? (i := 309) (by decide +kernel)) (by decide +kernel), ks_J7_fill_53178, kn_RJ7, kc_J7_fill_53178⟩, ⟨by decide +kernel, by decide +kernel, by decide +kernel⟩, by decide⟩
theorem gf_RX4_11 : sw_gf RX4 11 4 0 := ⟨RX4, TX4, 2, cf_4, by decide, sw_big_in (List.mem_of_getElem? (i := 312) (by decide +kernel)) (by decide +kernel), Or.inr trivial⟩
theorem lk_RX4_26 : sw_ms RX4 26 mJ7_fill_d0a16 2 := ⟨⟨sw_big_in (List.mem_of_getElem? (i := 853) (by decide +kernel)) (by decide +kernel), ks_J7_fill_d0a16, kn_RJ7, kc_J7_fill_d0a16⟩, ⟨by decide +kernel, by decide +kernel, by decide +kernel⟩, by decide⟩
theorem pf_RX5_19 : sw_pf RX5 19 5 2 := ⟨RX5, TX5, 4, cf_5, by decide, sw_big_in (List.mem_of_getElem? (i := 236) (by decide +kernel)) (by decide +kernel), rfl⟩
theorem lk_RX5_23 : sw_ms RX5 23 mJ9_max_7cf53 2 := ⟨⟨sw_big_in (List.mem_of_getElem? (i := 734) (by decide +kernel)) (by decide +kernel), ks_J9_max_7cf53, kn_RJ9, kc_J9_max_7cf53⟩, ⟨by decide +kernel, by decide +kernel, by decide +kernel⟩, by decide⟩
theorem lk_RX5_29 : sw_ms RX5 29 mJ9_min_7cf53 2 := ⟨⟨sw_big_in (List.mem_of_getElem? (i := 735) (by decide +kernel)) (by decide +kernel), ks_J9_min_7cf53, kn_RJ9, kc_J9_min_7cf53⟩, ⟨by decide +kernel, by decide +kernel, by decide +kernel⟩, by decide⟩
theorem gf_RX5_19 : sw_gf RX5 19 5 2 := ⟨RX5, TX5, 4, cf_5, by decide, sw_big_in (List.mem_of_getElem? (i := 236) (by decide +kernel)) (by decide +kernel), Or.inr trivial⟩
theorem gf_RX5_9 : sw_gf RX5 9 5 0 := ⟨RX5, TX5, 4, cf_5, by decide, sw_big_in (List.mem_of_getElem? (i := 234) (by decide +kernel)) (by decide +kernel), Or.inr trivial⟩
theorem pf_RX5_32 : sw_pf RX5 32 5 3 := ⟨RX5, TX5, 4, cf_5, by decide, sw_big_in (List.mem_of_getElem? (i := 238) (by decide +kernel)) (by decide +kernel), rfl⟩
theorem lk_RX5_35 : sw_mv RX5 35 mX5_note 5 1 := ⟨_, _, rfl, ⟨sw_big_in (List.mem_of_getElem? (i := 738) (by decide +kernel)) (by decide +kernel), ki_X5_note, kv_X5_note, kn_RX5, kc_X5_note⟩, ⟨by decide +kernel, by decide +kernel, by decide +kernel⟩, by decide⟩
theorem gf_RX5_32 : sw_gf RX5 32 5 3 := ⟨RX5, TX5, 4, cf_5, by decide, sw_big_in (List.mem_of_getElem? (i := 238) (by decide +kernel)) (by decide +kernel), Or.inr trivial⟩
theorem gf_RX5_15 : sw_gf RX5 15 5 1 := ⟨RX5, TX5, 4, cf_5, by decide, sw_big_in (List.mem_of_getElem? (i := 235) (by decide +kernel)) (by decide +kernel), Or.inr trivial⟩
theorem gf_RX5_39 : sw_gf RX5 39 1 2 := ⟨RX1, TX1, 3, cf_1, by decide, sw_big_in (List.mem_of_getElem? (i := 105) (by decide +kernel)) (by decide +kernel), Or.inr trivial⟩
theorem gf_RX5_42 : sw_gf RX5 42 1 0 := ⟨RX1, TX1, 3, cf_1, by decide, sw_big_in (List.mem_of_getElem? (i := 93) (by decide +kernel)) (by decide +kernel), Or.inr trivial⟩
theorem gf_RX5_45 : sw_gf RX5 45 10 1 := ⟨RX10, TX10, 2, cf_10, by decide, sw_big_in (List.mem_of_getElem? (i := 147) (by decide +kernel)) (by decide +kernel), Or.inr trivial⟩
theorem gf_RX5_50 : sw_gf RX5 50 10 0 := ⟨RX10, TX10, 2, cf_10, by decide, sw_big_in (List.mem_of_getElem? (i := 143) (by decide +kernel)) (by decide +kernel), Or.inr trivial⟩
theorem lk_RX5_53 : sw_mv RX5 53 mX5_powerOfPrime 5 2 := ⟨_, _, rfl, ⟨sw_big_in (List.mem_of_getElem? (i := 750) (by decide +kernel)) (by decide +kernel), ki_X5_powerOfPrime, kv_X5_powerOfPrime, kn_RX5, kc_X5_powerOfPrime⟩, ⟨by decide +kernel, by decide +kernel, by decide +kernel⟩, by decide⟩
theorem lk_RX5_56 : sw_ms RX5 56 mJ9_floorMod_7cf53 2 := ⟨⟨sw_big_in (List.mem_of_getElem? (i := 754) (by decide +kernel)) (by decide +kernel), ks_J9_floorMod_7cf53, kn_RJ9, kc_J9_floorMod_7cf53⟩, ⟨by decide +kernel, by decide +kernel, by decide +kernel⟩, by decide⟩
theorem gf_RX6_12 : sw_gf RX6 12 6 0 := ⟨RX6, TX6, 2, cf_6, by decide, sw_big_in (List.mem_of_getElem? (i := 292) (by decide +kernel)) (by decide +kernel), Or.inr trivial⟩
theorem lk_RX6_18 : sw_mv RX6 18 mX10_setOne 10 0 := ⟨_, _, rfl, ⟨sw_big_in (List.mem_of_getElem? (i := 807) (by decide +kernel)) (by decide +kernel), ki_X10_setOne, kv_X10_setOne, kn_RX10, kc_X10_setOne⟩, ⟨by decide +kernel, by decide +kernel, by decide +kernel⟩, by decide⟩
theorem pf_RX6_21 : sw_pf RX6 21 6 1 := ⟨RX6, TX6, 2, cf_6, by decide, sw_big_in (List.mem_of_getElem? (i := 294) (by decide +kernel)) (by decide +kernel), rfl⟩
theorem lk_RX6_25 : sw_mv RX6 25 mX2_at 2 1 := ⟨_, _, rfl, ⟨sw_big_in (List.mem_of_getElem? (i := 808) (by decide +kernel)) (by decide +kernel), ki_X2_at, kv_X2_at, kn_RX2, kc_X2_at⟩, ⟨by decide +kernel, by decide +kernel, by decide +kernel⟩, by decide⟩
theorem pf_RX6_31 : sw_pf RX6 31 10 1 := ⟨RX10, TX10, 2, cf_10, by decide, sw_big_in (List.mem_of_getElem? (i := 146) (by decide +kernel)) (by decide +kernel), rfl⟩
theorem gf_RX6_21 : sw_gf RX6 21 6 1 := ⟨RX6, TX6, 2, cf_6, by decide, sw_big_in (List.mem_of_getElem? (i := 294) (by decide +kernel)) (by decide +kernel), Or.inr trivial⟩
theorem lk_RX6_34 : sw_ms RX6 34 mX6_isFigure 1 := ⟨⟨sw_big_in (List.mem_of_getElem? (i := 812) (by decide +kernel)) (by decide +kernel), ks_X6_isFigure, kn_RX6, kc_X6_isFigure⟩, ⟨by decide +kernel, by decide +kernel, by decide +kernel⟩, by decide⟩
theorem gf_RX6_38 : sw_gf RX6 38 2 1 := ⟨RX2, TX2, 2, cf_2, by decide, sw_big_in (List.mem_of_getElem? (i := 277) (by decide +kernel)) (by decide +kernel), Or.inr trivial⟩
theorem lk_RX6_41 : sw_mv RX6 41 mX6_scanFactor 6 2 := ⟨_, _, rfl, ⟨sw_big_in (List.mem_of_getElem? (i := 815) (by decide +kernel)) (by decide +kernel), ki_X6_scanFactor, kv_X6_scanFactor, kn_RX6, kc_X6_scanFactor⟩, ⟨by decide +kernel, by decide +kernel, by decide +kernel⟩, by decide⟩
theorem lk_RX6_45 : sw_mv RX6 45 mX6_scanNumber 6 1 := ⟨_, _, rfl, ⟨sw_big_in (List.mem_of_getElem? (i := 819) (by decide +kernel)) (by decide +kernel), ki_X6_scanNumber, kv_X6_scanNumber, kn_RX6, kc_X6_scanNumber⟩, ⟨by decide +kernel, by decide +kernel, by decide +kernel⟩, by decide⟩
theorem lk_RX6_49 : sw_mv RX6 49 mX1_placeOf 1 1 := ⟨_, _, rfl, ⟨sw_big_in (List.mem_of_getElem? (i := 823) (by decide +kernel)) (by decide +kernel), ki_X1_placeOf, kv_X1_placeOf, kn_RX1, kc_X1_placeOf⟩, ⟨by decide +kernel, by decide +kernel, by decide +kernel⟩, by decide⟩
theorem gf_RX6_54 : sw_gf RX6 54 10 0 := ⟨RX10, TX10, 2, cf_10, by decide, sw_big_in (List.mem_of_getElem? (i := 142) (by decide +kernel)) (by decide +kernel), Or.inr trivial⟩
theorem lk_RX6_58 : sw_mv RX6 58 mX6_scanPower 6 2 := ⟨_, _, rfl, ⟨sw_big_in (List.mem_of_getElem? (i := 824) (by decide +kernel)) (by decide +kernel), ki_X6_scanPower, kv_X6_scanPower, kn_RX6, kc_X6_scanPower⟩, ⟨by decide +kernel, by decide +kernel, by decide +kernel⟩, by decide⟩
theorem lk_RX7_15 : sw_mv RX7 15 mX7_remove 7 1 := ⟨_, _, rfl, ⟨sw_big_in (List.mem_of_getElem? (i := 709) (by decide +kernel)) (by decide +kernel), ki_X7_remove, kv_X7_remove, kn_RX7, kc_X7_remove⟩, ⟨by decide +kernel, by decide +kernel, by decide +kernel⟩, by decide⟩
theorem gf_RX7_19 : sw_gf RX7 19 7 1 := ⟨RX7, TX7, 2, cf_7, by decide, sw_big_in (List.mem_of_getElem? (i := 129) (by decide +kernel)) (by decide +kernel), Or.inr trivial⟩
theorem lk_RX7_23 : sw_mv RX7 23 mX7_removeAt 7 1 := ⟨_, _, rfl, ⟨sw_big_in (List.mem_of_getElem? (i := 398) (by decide +kernel)) (by decide +kernel), ki_X7_removeAt, kv_X7_removeAt, kn_RX7, kc_X7_removeAt⟩, ⟨by decide +kernel, by decide +kernel, by decide +kernel⟩, by decide⟩
theorem gf_RX7_9 : sw_gf RX7 9 7 0 := ⟨RX7, TX7, 2, cf_7, by decide, sw_big_in (List.mem_of_getElem? (i := 125) (by decide +kernel)) (by decide +kernel), Or.inr trivial⟩
theorem pf_RX7_19 : sw_pf RX7 19 7 1 := ⟨RX7, TX7, 2, cf_7, by decide, sw_big_in (List.mem_of_getElem? (i := 129) (by decide +kernel)) (by decide +kernel), rfl⟩
theorem lk_RX7_27 : sw_ac RX7 27 := ⟨sw_big_in (List.mem_of_getElem? (i := 898) (by decide +kernel)) (by decide +kernel), ka_nat, ka_sta, ka_ini⟩
theorem gf_RX8_11 : sw_gf RX8 11 8 0 := ⟨RX8, TX8, 3, cf_8, by decide, sw_big_in (List.mem_of_getElem? (i := 250) (by decide +kernel)) (by decide +kernel), Or.inr trivial⟩
theorem gf_RX8_23 : sw_gf RX8 23 7 1 := ⟨RX7, TX7, 2, cf_7, by decide, sw_big_in (List.mem_of_getElem? (i := 128) (by decide +kernel)) (by decide +kernel), Or.inr trivial⟩
theorem pf_RX8_29 : sw_pf RX8 29 8 2 := ⟨RX8, TX8, 3, cf_8, by decide, sw_big_in (List.mem_of_getElem? (i := 252) (by decide +kernel)) (by decide +kernel), rfl⟩
theorem gf_RX8_29 : sw_gf RX8 29 8 2 := ⟨RX8, TX8, 3, cf_8, by decide, sw_big_in (List.mem_of_getElem? (i := 252) (by decide +kernel)) (by decide +kernel), Or.inr trivial⟩
theorem gf_RX8_32 : sw_gf RX8 32 7 0 := ⟨RX7, TX7, 2, cf_7, by decide, sw_big_in (List.mem_of_getElem? (i := 126) (by decide +kernel)) (by decide +kernel), Or.inr trivial⟩
theorem lk_RX8_36 : sw_mv RX8 36 mX5_fill 5 2 := ⟨_, _, rfl, ⟨sw_big_in (List.mem_of_getElem? (i := 769) (by decide +kernel)) (by decide +kernel), ki_X5_fill, kv_X5_fill, kn_RX5, kc_X5_fill⟩, ⟨by decide +kernel, by decide +kernel, by decide +kernel⟩, by decide⟩
theorem gf_RX8_19 : sw_gf RX8 19 8 1 := ⟨RX8, TX8, 3, cf_8, by decide, sw_big_in (List.mem_of_getElem? (i := 251) (by decide +kernel)) (by decide +kernel), Or.inr trivial⟩
theorem lk_RX8_40 : sw_ms RX8 40 mX8_passing 3 := ⟨⟨sw_big_in (List.mem_of_getElem? (i := 770) (by decide +kernel)) (by decide +kernel), ks_X8_passing, kn_RX8, kc_X8_passing⟩, ⟨by decide +kernel, by decide +kernel, by decide +kernel⟩, by decide⟩
theorem gf_RX8_44 : sw_gf RX8 44 1 2 := ⟨RX1, TX1, 3, cf_1, by decide, sw_big_in (List.mem_of_getElem? (i := 106) (by decide +kernel)) (by decide +kernel), Or.inr trivial⟩
theorem lk_RX8_47 : sw_mv RX8 47 mX8_passingSigns 8 1 := ⟨_, _, rfl, ⟨sw_big_in (List.mem_of_getElem? (i := 773) (by decide +kernel)) (by decide +kernel), ki_X8_passingSigns, kv_X8_passingSigns, kn_RX8, kc_X8_passingSigns⟩, ⟨by decide +kernel, by decide +kernel, by decide +kernel⟩, by decide⟩
theorem gf_RX8_51 : sw_gf RX8 51 1 0 := ⟨RX1, TX1, 3, cf_1, by decide, sw_big_in (List.mem_of_getElem? (i := 94) (by decide +kernel)) (by decide +kernel), Or.inr trivial⟩
theorem gf_RX8_54 : sw_gf RX8 54 1 1 := ⟨RX1, TX1, 3, cf_1, by decide, sw_big_in (List.mem_of_getElem? (i := 99) (by decide +kernel)) (by decide +kernel), Or.inr trivial⟩
theorem lk_RX8_57 : sw_mv RX8 57 mX5_powerOfPrime 5 2 := ⟨_, _, rfl, ⟨sw_big_in (List.mem_of_getElem? (i := 782) (by decide +kernel)) (by decide +kernel), ki_X5_powerOfPrime, kv_X5_powerOfPrime, kn_RX5, kc_X5_powerOfPrime⟩, ⟨by decide +kernel, by decide +kernel, by decide +kernel⟩, by decide⟩
theorem gf_RX8_61 : sw_gf RX8 61 5 2 := ⟨RX5, TX5, 4, cf_5, by decide, sw_big_in (List.mem_of_getElem? (i := 237) (by decide +kernel)) (by decide +kernel), Or.inr trivial⟩
theorem lk_RX8_64 : sw_mv RX8 64 mX8_isCaught 8 2 := ⟨_, _, rfl, ⟨sw_big_in (List.mem_of_getElem? (i := 777) (by decide +kernel)) (by decide +kernel), ki_X8_isCaught, kv_X8_isCaught, kn_RX8, kc_X8_isCaught⟩, ⟨by decide +kernel, by decide +kernel, by decide +kernel⟩, by decide⟩
theorem lk_RX8_68 : sw_mv RX8 68 mX5_letsPass 5 1 := ⟨_, _, rfl, ⟨sw_big_in (List.mem_of_getElem? (i := 781) (by decide +kernel)) (by decide +kernel), ki_X5_letsPass, kv_X5_letsPass, kn_RX5, kc_X5_letsPass⟩, ⟨by decide +kernel, by decide +kernel, by decide +kernel⟩, by decide⟩
theorem pf_RX9_9 : sw_pf RX9 9 9 1 := ⟨RX9, TX9, 3, cf_9, by decide, sw_big_in (List.mem_of_getElem? (i := 180) (by decide +kernel)) (by decide +kernel), rfl⟩
theorem pf_RX9_15 : sw_pf RX9 15 9 2 := ⟨RX9, TX9, 3, cf_9, by decide, sw_big_in (List.mem_of_getElem? (i := 182) (by decide +kernel)) (by decide +kernel), rfl⟩
theorem pf_RX9_18 : sw_pf RX9 18 9 0 := ⟨RX9, TX9, 3, cf_9, by decide, sw_big_in (List.mem_of_getElem? (i := 179) (by decide +kernel)) (by decide +kernel), rfl⟩
theorem lk_RX9_21 : sw_mv RX9 21 mX9_rawBelow 9 1 := ⟨_, _, rfl, ⟨sw_big_in (List.mem_of_getElem? (i := 557) (by decide +kernel)) (by decide +kernel), ki_X9_rawBelow, kv_X9_rawBelow, kn_RX9, kc_X9_rawBelow⟩, ⟨by decide +kernel, by decide +kernel, by decide +kernel⟩, by decide⟩
theorem lk_RX9_25 : sw_mv RX9 25 mX9_rawAbove 9 1 := ⟨_, _, rfl, ⟨sw_big_in (List.mem_of_getElem? (i := 561) (by decide +kernel)) (by decide +kernel), ki_X9_rawAbove, kv_X9_rawAbove, kn_RX9, kc_X9_rawAbove⟩, ⟨by decide +kernel, by decide +kernel, by decide +kernel⟩, by decide⟩
theorem lk_RX9_28 : sw_ms RX9 28 mJ9_abs_067f4 1 := ⟨⟨sw_big_in (List.mem_of_getElem? (i := 569) (by decide +kernel)) (by decide +kernel), ks_J9_abs_067f4, kn_RJ9, kc_J9_abs_067f4⟩, ⟨by decide +kernel, by decide +kernel, by decide +kernel⟩, by decide⟩
theorem gf_RX9_18 : sw_gf RX9 18 9 0 := ⟨RX9, TX9, 3, cf_9, by decide, sw_big_in (List.mem_of_getElem? (i := 179) (by decide +kernel)) (by decide +kernel), Or.inr trivial⟩
theorem gf_RX9_15 : sw_gf RX9 15 9 2 := ⟨RX9, TX9, 3, cf_9, by decide, sw_big_in (List.mem_of_getElem? (i := 182) (by decide +kernel)) (by decide +kernel), Or.inr trivial⟩
theorem gf_RX9_9 : sw_gf RX9 9 9 1 := ⟨RX9, TX9, 3, cf_9, by decide, sw_big_in (List.mem_of_getElem? (i := 180) (by decide +kernel)) (by decide +kernel), Or.inr trivial⟩
theorem lk_RX9_34 : sw_mv RX9 34 mX9_isLikeAnEarlierOne 9 1 := ⟨_, _, rfl, ⟨sw_big_in (List.mem_of_getElem? (i := 578) (by decide +kernel)) (by decide +kernel), ki_X9_isLikeAnEarlierOne, kv_X9_isLikeAnEarlierOne, kn_RX9, kc_X9_isLikeAnEarlierOne⟩, ⟨by decide +kernel, by decide +kernel, by decide +kernel⟩, by decide⟩
theorem lk_RX9_38 : sw_mv RX9 38 mX9_formAbove 9 1 := ⟨_, _, rfl, ⟨sw_big_in (List.mem_of_getElem? (i := 582) (by decide +kernel)) (by decide +kernel), ki_X9_formAbove, kv_X9_formAbove, kn_RX9, kc_X9_formAbove⟩, ⟨by decide +kernel, by decide +kernel, by decide +kernel⟩, by decide⟩
theorem lk_RX9_41 : sw_mv RX9 41 mX9_formBelow 9 1 := ⟨_, _, rfl, ⟨sw_big_in (List.mem_of_getElem? (i := 583) (by decide +kernel)) (by decide +kernel), ki_X9_formBelow, kv_X9_formBelow, kn_RX9, kc_X9_formBelow⟩, ⟨by decide +kernel, by decide +kernel, by decide +kernel⟩, by decide⟩
theorem pf_RX10_15 : sw_pf RX10 15 10 1 := ⟨RX10, TX10, 2, cf_10, by decide, sw_big_in (List.mem_of_getElem? (i := 145) (by decide +kernel)) (by decide +kernel), rfl⟩
theorem gf_RX10_9 : sw_gf RX10 9 10 0 := ⟨RX10, TX10, 2, cf_10, by decide, sw_big_in (List.mem_of_getElem? (i := 141) (by decide +kernel)) (by decide +kernel), Or.inr trivial⟩
theorem lk_RX10_19 : sw_ms RX10 19 mJ7_fill_53178 2 := ⟨⟨sw_big_in (List.mem_of_getElem? (i := 542) (by decide +kernel)) (by decide +kernel), ks_J7_fill_53178, kn_RJ7, kc_J7_fill_53178⟩, ⟨by decide +kernel, by decide +kernel, by decide +kernel⟩, by decide⟩
theorem lk_RX10_25 : sw_ac RX10 25 := ⟨sw_big_in (List.mem_of_getElem? (i := 515) (by decide +kernel)) (by decide +kernel), ka_nat, ka_sta, ka_ini⟩
theorem gf_RX10_15 : sw_gf RX10 15 10 1 := ⟨RX10, TX10, 2, cf_10, by decide, sw_big_in (List.mem_of_getElem? (i := 145) (by decide +kernel)) (by decide +kernel), Or.inr trivial⟩
theorem lk_RX10_31 : sw_ms RX10 31 mJ9_max_7cf53 2 := ⟨⟨sw_big_in (List.mem_of_getElem? (i := 427) (by decide +kernel)) (by decide +kernel), ks_J9_max_7cf53, kn_RJ9, kc_J9_max_7cf53⟩, ⟨by decide +kernel, by decide +kernel, by decide +kernel⟩, by decide⟩
theorem lk_RX10_37 : sw_mv RX10 37 mX10_oneSide 10 2 := ⟨_, _, rfl, ⟨sw_big_in (List.mem_of_getElem? (i := 467) (by decide +kernel)) (by decide +kernel), ki_X10_oneSide, kv_X10_oneSide, kn_RX10, kc_X10_oneSide⟩, ⟨by decide +kernel, by decide +kernel, by decide +kernel⟩, by decide⟩
theorem gf_RX10_41 : sw_gf RX10 41 1 2 := ⟨RX1, TX1, 3, cf_1, by decide, sw_big_in (List.mem_of_getElem? (i := 108) (by decide +kernel)) (by decide +kernel), Or.inr trivial⟩
theorem gf_RX10_46 : sw_gf RX10 46 1 0 := ⟨RX1, TX1, 3, cf_1, by decide, sw_big_in (List.mem_of_getElem? (i := 97) (by decide +kernel)) (by decide +kernel), Or.inr trivial⟩
theorem lk_RX10_49 : sw_ms RX10 49 mJ9_abs_0f7a4 1 := ⟨⟨sw_big_in (List.mem_of_getElem? (i := 483) (by decide +kernel)) (by decide +kernel), ks_J9_abs_0f7a4, kn_RJ9, kc_J9_abs_0f7a4⟩, ⟨by decide +kernel, by decide +kernel, by decide +kernel⟩, by decide⟩
theorem lk_RX10_53 : sw_mv RX10 53 mX10_greatestPower 10 0 := ⟨_, _, rfl, ⟨sw_big_in (List.mem_of_getElem? (i := 510) (by decide +kernel)) (by decide +kernel), ki_X10_greatestPower, kv_X10_greatestPower, kn_RX10, kc_X10_greatestPower⟩, ⟨by decide +kernel, by decide +kernel, by decide +kernel⟩, by decide⟩
theorem gf_RX10_57 : sw_gf RX10 57 1 1 := ⟨RX1, TX1, 3, cf_1, by decide, sw_big_in (List.mem_of_getElem? (i := 102) (by decide +kernel)) (by decide +kernel), Or.inr trivial⟩
theorem lk_RX10_60 : sw_mv RX10 60 mX10_setOne 10 0 := ⟨_, _, rfl, ⟨sw_big_in (List.mem_of_getElem? (i := 538) (by decide +kernel)) (by decide +kernel), ki_X10_setOne, kv_X10_setOne, kn_RX10, kc_X10_setOne⟩, ⟨by decide +kernel, by decide +kernel, by decide +kernel⟩, by decide⟩
theorem lk_RX10_63 : sw_ms RX10 63 mJ9_abs_067f4 1 := ⟨⟨sw_big_in (List.mem_of_getElem? (i := 543) (by decide +kernel)) (by decide +kernel), ks_J9_abs_067f4, kn_RJ9, kc_J9_abs_067f4⟩, ⟨by decide +kernel, by decide +kernel, by decide +kernel⟩, by decide⟩
theorem lk_RX10_66 : sw_msN RX10 66 mX11_divides 2 := ⟨⟨⟨RX11, by first | exact List.mem_cons_self | exact List.mem_cons_of_mem _ List.mem_cons_self⟩, ks_X11_divides, kn_RX11, kc_X11_divides⟩, ⟨by decide +kernel, by decide +kernel, by decide +kernel⟩, by decide⟩
theorem lk_RX10_70 : sw_mv RX10 70 mX2_clear 2 0 := ⟨_, _, rfl, ⟨sw_big_in (List.mem_of_getElem? (i := 836) (by decide +kernel)) (by decide +kernel), ki_X2_clear, kv_X2_clear, kn_RX2, kc_X2_clear⟩, ⟨by decide +kernel, by decide +kernel, by decide +kernel⟩, by decide⟩
theorem lk_RX10_75 : sw_mv RX10 75 mX2_add 2 1 := ⟨_, _, rfl, ⟨sw_big_in (List.mem_of_getElem? (i := 837) (by decide +kernel)) (by decide +kernel), ki_X2_add, kv_X2_add, kn_RX2, kc_X2_add⟩, ⟨by decide +kernel, by decide +kernel, by decide +kernel⟩, by decide⟩
theorem lk_RX10_79 : sw_ms RX10 79 mX10_spellFactor 3 := ⟨⟨sw_big_in (List.mem_of_getElem? (i := 838) (by decide +kernel)) (by decide +kernel), ks_X10_spellFactor, kn_RX10, kc_X10_spellFactor⟩, ⟨by decide +kernel, by decide +kernel, by decide +kernel⟩, by decide⟩
theorem lk_RX11_82 : sw_ms RX11 82 mX11_isPrimeWithin 3 := ⟨⟨sw_big_in (List.mem_of_getElem? (i := 371) (by decide +kernel)) (by decide +kernel), ks_X11_isPrimeWithin, kn_RX11, kc_X11_isPrimeWithin⟩, ⟨by decide +kernel, by decide +kernel, by decide +kernel⟩, by decide⟩
theorem gf_RX11_12 : sw_gf RX11 12 11 0 := ⟨RX11, TX11, 15, cf_11, by decide, sw_big_in (List.mem_of_getElem? (i := 321) (by decide +kernel)) (by decide +kernel), Or.inr trivial⟩
theorem gf_RX11_86 : sw_gf RX11 86 3 0 := ⟨RX3, TX3, 3, cf_3, by decide, sw_big_in (List.mem_of_getElem? (i := 155) (by decide +kernel)) (by decide +kernel), Or.inr trivial⟩
theorem lk_RX11_90 : sw_mv RX11 90 mX1_placeOf 1 1 := ⟨_, _, rfl, ⟨sw_big_in (List.mem_of_getElem? (i := 374) (by decide +kernel)) (by decide +kernel), ki_X1_placeOf, kv_X1_placeOf, kn_RX1, kc_X1_placeOf⟩, ⟨by decide +kernel, by decide +kernel, by decide +kernel⟩, by decide⟩
theorem gf_RX11_96 : sw_gf RX11 96 1 2 := ⟨RX1, TX1, 3, cf_1, by decide, sw_big_in (List.mem_of_getElem? (i := 104) (by decide +kernel)) (by decide +kernel), Or.inr trivial⟩
theorem lk_RX11_100 : sw_mv RX11 100 mX1_product 1 0 := ⟨_, _, rfl, ⟨sw_big_in (List.mem_of_getElem? (i := 378) (by decide +kernel)) (by decide +kernel), ki_X1_product, kv_X1_product, kn_RX1, kc_X1_product⟩, ⟨by decide +kernel, by decide +kernel, by decide +kernel⟩, by decide⟩
theorem lk_RX11_104 : sw_mv RX11 104 mX3_addPrime 3 1 := ⟨_, _, rfl, ⟨sw_big_in (List.mem_of_getElem? (i := 382) (by decide +kernel)) (by decide +kernel), ki_X3_addPrime, kv_X3_addPrime, kn_RX3, kc_X3_addPrime⟩, ⟨by decide +kernel, by decide +kernel, by decide +kernel⟩, by decide⟩
theorem lk_RX11_107 : sw_mv RX11 107 mX11_primesChanged 11 0 := ⟨_, _, rfl, ⟨sw_big_in (List.mem_of_getElem? (i := 402) (by decide +kernel)) (by decide +kernel), ki_X11_primesChanged, kv_X11_primesChanged, kn_RX11, kc_X11_primesChanged⟩, ⟨by decide +kernel, by decide +kernel, by decide +kernel⟩, by decide⟩
theorem lk_RX11_110 : sw_mv RX11 110 mX1_has 1 1 := ⟨_, _, rfl, ⟨sw_big_in (List.mem_of_getElem? (i := 410) (by decide +kernel)) (by decide +kernel), ki_X1_has, kv_X1_has, kn_RX1, kc_X1_has⟩, ⟨by decide +kernel, by decide +kernel, by decide +kernel⟩, by decide⟩
theorem lk_RX11_114 : sw_mv RX11 114 mX3_removePrime 3 1 := ⟨_, _, rfl, ⟨sw_big_in (List.mem_of_getElem? (i := 414) (by decide +kernel)) (by decide +kernel), ki_X3_removePrime, kv_X3_removePrime, kn_RX3, kc_X3_removePrime⟩, ⟨by decide +kernel, by decide +kernel, by decide +kernel⟩, by decide⟩
theorem gf_RX11_117 : sw_gf RX11 117 1 0 := ⟨RX1, TX1, 3, cf_1, by decide, sw_big_in (List.mem_of_getElem? (i := 95) (by decide +kernel)) (by decide +kernel), Or.inr trivial⟩
theorem gf_RX11_121 : sw_gf RX11 121 1 1 := ⟨RX1, TX1, 3, cf_1, by decide, sw_big_in (List.mem_of_getElem? (i := 100) (by decide +kernel)) (by decide +kernel), Or.inr trivial⟩
theorem lk_RX11_124 : sw_ms RX11 124 mX11_isShelf 1 := ⟨⟨sw_big_in (List.mem_of_getElem? (i := 444) (by decide +kernel)) (by decide +kernel), ks_X11_isShelf, kn_RX11, kc_X11_isShelf⟩, ⟨by decide +kernel, by decide +kernel, by decide +kernel⟩, by decide⟩
theorem gf_RX11_127 : sw_gf RX11 127 3 1 := ⟨RX3, TX3, 3, cf_3, by decide, sw_big_in (List.mem_of_getElem? (i := 157) (by decide +kernel)) (by decide +kernel), Or.inr trivial⟩
theorem gf_RX11_131 : sw_gf RX11 131 10 0 := ⟨RX10, TX10, 2, cf_10, by decide, sw_big_in (List.mem_of_getElem? (i := 144) (by decide +kernel)) (by decide +kernel), Or.inr trivial⟩
theorem pf_RX11_134 : sw_pf RX11 134 10 1 := ⟨RX10, TX10, 2, cf_10, by decide, sw_big_in (List.mem_of_getElem? (i := 148) (by decide +kernel)) (by decide +kernel), rfl⟩
theorem lk_RX11_137 : sw_ms RX11 137 mX11_isPart 1 := ⟨⟨sw_big_in (List.mem_of_getElem? (i := 459) (by decide +kernel)) (by decide +kernel), ks_X11_isPart, kn_RX11, kc_X11_isPart⟩, ⟨by decide +kernel, by decide +kernel, by decide +kernel⟩, by decide⟩
theorem kk_RX11_140 : Cond.constantLong RX11 140 (-9223372036854775808) ∈ sw_big := sw_big_in (List.mem_of_getElem? (i := 462) (by decide +kernel)) (by decide +kernel)
theorem lk_RX11_142 : sw_mv RX11 142 mX10_above 10 1 := ⟨_, _, rfl, ⟨sw_big_in (List.mem_of_getElem? (i := 463) (by decide +kernel)) (by decide +kernel), ki_X10_above, kv_X10_above, kn_RX10, kc_X10_above⟩, ⟨by decide +kernel, by decide +kernel, by decide +kernel⟩, by decide⟩
theorem lk_RX11_146 : sw_mv RX11 146 mX10_below 10 1 := ⟨_, _, rfl, ⟨sw_big_in (List.mem_of_getElem? (i := 471) (by decide +kernel)) (by decide +kernel), ki_X10_below, kv_X10_below, kn_RX10, kc_X10_below⟩, ⟨by decide +kernel, by decide +kernel, by decide +kernel⟩, by decide⟩
theorem lk_RX11_149 : sw_mv RX11 149 mX10_greatestPower 10 0 := ⟨_, _, rfl, ⟨sw_big_in (List.mem_of_getElem? (i := 479) (by decide +kernel)) (by decide +kernel), ki_X10_greatestPower, kv_X10_greatestPower, kn_RX10, kc_X10_greatestPower⟩, ⟨by decide +kernel, by decide +kernel, by decide +kernel⟩, by decide⟩
theorem lk_RX11_152 : sw_mv RX11 152 mX10_isWithin 10 1 := ⟨_, _, rfl, ⟨sw_big_in (List.mem_of_getElem? (i := 490) (by decide +kernel)) (by decide +kernel), ki_X10_isWithin, kv_X10_isWithin, kn_RX10, kc_X10_isWithin⟩, ⟨by decide +kernel, by decide +kernel, by decide +kernel⟩, by decide⟩
theorem lk_RX11_156 : sw_mv RX11 156 mX11_combine 11 4 := ⟨_, _, rfl, ⟨sw_big_in (List.mem_of_getElem? (i := 498) (by decide +kernel)) (by decide +kernel), ki_X11_combine, kv_X11_combine, kn_RX11, kc_X11_combine⟩, ⟨by decide +kernel, by decide +kernel, by decide +kernel⟩, by decide⟩
theorem lk_RX11_160 : sw_mv RX11 160 mX11_hasPartner 11 1 := ⟨_, _, rfl, ⟨sw_big_in (List.mem_of_getElem? (i := 526) (by decide +kernel)) (by decide +kernel), ki_X11_hasPartner, kv_X11_hasPartner, kn_RX11, kc_X11_hasPartner⟩, ⟨by decide +kernel, by decide +kernel, by decide +kernel⟩, by decide⟩
theorem gf_RX11_45 : sw_gf RX11 45 11 5 := ⟨RX11, TX11, 15, cf_11, by decide, sw_big_in (List.mem_of_getElem? (i := 326) (by decide +kernel)) (by decide +kernel), Or.inr trivial⟩
theorem lk_RX11_164 : sw_mv RX11 164 mX10_copy 10 1 := ⟨_, _, rfl, ⟨sw_big_in (List.mem_of_getElem? (i := 511) (by decide +kernel)) (by decide +kernel), ki_X10_copy, kv_X10_copy, kn_RX10, kc_X10_copy⟩, ⟨by decide +kernel, by decide +kernel, by decide +kernel⟩, by decide⟩
theorem gf_RX11_52 : sw_gf RX11 52 11 6 := ⟨RX11, TX11, 15, cf_11, by decide, sw_big_in (List.mem_of_getElem? (i := 327) (by decide +kernel)) (by decide +kernel), Or.inr trivial⟩
theorem lk_RX11_168 : sw_mv RX11 168 mX9_formAbove 9 1 := ⟨_, _, rfl, ⟨sw_big_in (List.mem_of_getElem? (i := 553) (by decide +kernel)) (by decide +kernel), ki_X9_formAbove, kv_X9_formAbove, kn_RX9, kc_X9_formAbove⟩, ⟨by decide +kernel, by decide +kernel, by decide +kernel⟩, by decide⟩
theorem lk_RX11_172 : sw_mv RX11 172 mX9_formBelow 9 1 := ⟨_, _, rfl, ⟨sw_big_in (List.mem_of_getElem? (i := 565) (by decide +kernel)) (by decide +kernel), ki_X9_formBelow, kv_X9_formBelow, kn_RX9, kc_X9_formBelow⟩, ⟨by decide +kernel, by decide +kernel, by decide +kernel⟩, by decide⟩
theorem lk_RX11_175 : sw_mv RX11 175 mX10_setFraction 10 3 := ⟨_, _, rfl, ⟨sw_big_in (List.mem_of_getElem? (i := 534) (by decide +kernel)) (by decide +kernel), ki_X10_setFraction, kv_X10_setFraction, kn_RX10, kc_X10_setFraction⟩, ⟨by decide +kernel, by decide +kernel, by decide +kernel⟩, by decide⟩
theorem lk_RX11_179 : sw_mv RX11 179 mX9_unlikeForms 9 0 := ⟨_, _, rfl, ⟨sw_big_in (List.mem_of_getElem? (i := 574) (by decide +kernel)) (by decide +kernel), ki_X9_unlikeForms, kv_X9_unlikeForms, kn_RX9, kc_X9_unlikeForms⟩, ⟨by decide +kernel, by decide +kernel, by decide +kernel⟩, by decide⟩
theorem lk_RX11_182 : sw_mv RX11 182 mX11_known 11 0 := ⟨_, _, rfl, ⟨sw_big_in (List.mem_of_getElem? (i := 588) (by decide +kernel)) (by decide +kernel), ki_X11_known, kv_X11_known, kn_RX11, kc_X11_known⟩, ⟨by decide +kernel, by decide +kernel, by decide +kernel⟩, by decide⟩
theorem gf_RX11_186 : sw_gf RX11 186 0 5 := ⟨RX0, TX0, 7, cf_0, by decide, sw_big_in (List.mem_of_getElem? (i := 201) (by decide +kernel)) (by decide +kernel), Or.inr trivial⟩
theorem lk_RX11_187 : sw_mv RX11 187 mX0_told 0 2 := ⟨_, _, rfl, ⟨sw_big_in (List.mem_of_getElem? (i := 634) (by decide +kernel)) (by decide +kernel), ki_X0_told, kv_X0_told, kn_RX0, kc_X0_told⟩, ⟨by decide +kernel, by decide +kernel, by decide +kernel⟩, by decide⟩
theorem lk_RX11_191 : sw_mv RX11 191 mX0_has 0 1 := ⟨_, _, rfl, ⟨sw_big_in (List.mem_of_getElem? (i := 647) (by decide +kernel)) (by decide +kernel), ki_X0_has, kv_X0_has, kn_RX0, kc_X0_has⟩, ⟨by decide +kernel, by decide +kernel, by decide +kernel⟩, by decide⟩
theorem gf_RX11_192 : sw_gf RX11 192 0 0 := ⟨RX0, TX0, 7, cf_0, by decide, sw_big_in (List.mem_of_getElem? (i := 193) (by decide +kernel)) (by decide +kernel), Or.inr trivial⟩
theorem gf_RX11_195 : sw_gf RX11 195 0 1 := ⟨RX0, TX0, 7, cf_0, by decide, sw_big_in (List.mem_of_getElem? (i := 195) (by decide +kernel)) (by decide +kernel), Or.inr trivial⟩
theorem lk_RX11_197 : sw_mv RX11 197 mX0_numberOf 0 2 := ⟨_, _, rfl, ⟨sw_big_in (List.mem_of_getElem? (i := 652) (by decide +kernel)) (by decide +kernel), ki_X0_numberOf, kv_X0_numberOf, kn_RX0, kc_X0_numberOf⟩, ⟨by decide +kernel, by decide +kernel, by decide +kernel⟩, by decide⟩
theorem gf_RX11_201 : sw_gf RX11 201 0 6 := ⟨RX0, TX0, 7, cf_0, by decide, sw_big_in (List.mem_of_getElem? (i := 203) (by decide +kernel)) (by decide +kernel), Or.inr trivial⟩
theorem gf_RX11_204 : sw_gf RX11 204 0 2 := ⟨RX0, TX0, 7, cf_0, by decide, sw_big_in (List.mem_of_getElem? (i := 197) (by decide +kernel)) (by decide +kernel), Or.inr trivial⟩
theorem lk_RX11_207 : sw_mv RX11 207 mX0_sizeOfGroup 0 1 := ⟨_, _, rfl, ⟨sw_big_in (List.mem_of_getElem? (i := 670) (by decide +kernel)) (by decide +kernel), ki_X0_sizeOfGroup, kv_X0_sizeOfGroup, kn_RX0, kc_X0_sizeOfGroup⟩, ⟨by decide +kernel, by decide +kernel, by decide +kernel⟩, by decide⟩
theorem lk_RX11_210 : sw_mv RX11 210 mX0_firstOfGroup 0 1 := ⟨_, _, rfl, ⟨sw_big_in (List.mem_of_getElem? (i := 674) (by decide +kernel)) (by decide +kernel), ki_X0_firstOfGroup, kv_X0_firstOfGroup, kn_RX0, kc_X0_firstOfGroup⟩, ⟨by decide +kernel, by decide +kernel, by decide +kernel⟩, by decide⟩
theorem lk_RX11_213 : sw_mv RX11 213 mX11_greatestHeightIn 11 2 := ⟨_, _, rfl, ⟨sw_big_in (List.mem_of_getElem? (i := 678) (by decide +kernel)) (by decide +kernel), ki_X11_greatestHeightIn, kv_X11_greatestHeightIn, kn_RX11, kc_X11_greatestHeightIn⟩, ⟨by decide +kernel, by decide +kernel, by decide +kernel⟩, by decide⟩
theorem lk_RX11_217 : sw_mv RX11 217 mX10_setOne 10 0 := ⟨_, _, rfl, ⟨sw_big_in (List.mem_of_getElem? (i := 687) (by decide +kernel)) (by decide +kernel), ki_X10_setOne, kv_X10_setOne, kn_RX10, kc_X10_setOne⟩, ⟨by decide +kernel, by decide +kernel, by decide +kernel⟩, by decide⟩
theorem lk_RX11_220 : sw_ms RX11 220 mX11_nextSeed 1 := ⟨⟨sw_big_in (List.mem_of_getElem? (i := 688) (by decide +kernel)) (by decide +kernel), ks_X11_nextSeed, kn_RX11, kc_X11_nextSeed⟩, ⟨by decide +kernel, by decide +kernel, by decide +kernel⟩, by decide⟩
theorem lk_RX11_223 : sw_ms RX11 223 mX11_draw 2 := ⟨⟨sw_big_in (List.mem_of_getElem? (i := 692) (by decide +kernel)) (by decide +kernel), ks_X11_draw, kn_RX11, kc_X11_draw⟩, ⟨by decide +kernel, by decide +kernel, by decide +kernel⟩, by decide⟩
theorem lk_RX11_227 : sw_mv RX11 227 mX11_faultOfModulus 11 1 := ⟨_, _, rfl, ⟨sw_big_in (List.mem_of_getElem? (i := 701) (by decide +kernel)) (by decide +kernel), ki_X11_faultOfModulus, kv_X11_faultOfModulus, kn_RX11, kc_X11_faultOfModulus⟩, ⟨by decide +kernel, by decide +kernel, by decide +kernel⟩, by decide⟩
theorem gf_RX11_230 : sw_gf RX11 230 3 2 := ⟨RX3, TX3, 3, cf_3, by decide, sw_big_in (List.mem_of_getElem? (i := 159) (by decide +kernel)) (by decide +kernel), Or.inr trivial⟩
theorem lk_RX11_234 : sw_mv RX11 234 mX7_ask 7 1 := ⟨_, _, rfl, ⟨sw_big_in (List.mem_of_getElem? (i := 705) (by decide +kernel)) (by decide +kernel), ki_X7_ask, kv_X7_ask, kn_RX7, kc_X7_ask⟩, ⟨by decide +kernel, by decide +kernel, by decide +kernel⟩, by decide⟩
theorem pf_RX11_239 : sw_pf RX11 239 11 13 := ⟨RX11, TX11, 15, cf_11, by decide, sw_big_in (List.mem_of_getElem? (i := 334) (by decide +kernel)) (by decide +kernel), rfl⟩
theorem gf_RX11_243 : sw_gf RX11 243 7 1 := ⟨RX7, TX7, 2, cf_7, by decide, sw_big_in (List.mem_of_getElem? (i := 130) (by decide +kernel)) (by decide +kernel), Or.inr trivial⟩
theorem gf_RX11_244 : sw_gf RX11 244 7 0 := ⟨RX7, TX7, 2, cf_7, by decide, sw_big_in (List.mem_of_getElem? (i := 127) (by decide +kernel)) (by decide +kernel), Or.inr trivial⟩
theorem lk_RX11_247 : sw_mv RX11 247 mX7_remove 7 1 := ⟨_, _, rfl, ⟨sw_big_in (List.mem_of_getElem? (i := 718) (by decide +kernel)) (by decide +kernel), ki_X7_remove, kv_X7_remove, kn_RX7, kc_X7_remove⟩, ⟨by decide +kernel, by decide +kernel, by decide +kernel⟩, by decide⟩
theorem lk_RX11_250 : sw_ms RX11 250 mX11_orderModulo 2 := ⟨⟨sw_big_in (List.mem_of_getElem? (i := 723) (by decide +kernel)) (by decide +kernel), ks_X11_orderModulo, kn_RX11, kc_X11_orderModulo⟩, ⟨by decide +kernel, by decide +kernel, by decide +kernel⟩, by decide⟩
theorem gf_RX11_38 : sw_gf RX11 38 11 4 := ⟨RX11, TX11, 15, cf_11, by decide, sw_big_in (List.mem_of_getElem? (i := 325) (by decide +kernel)) (by decide +kernel), Or.inr trivial⟩
theorem lk_RX11_253 : sw_mv RX11 253 mX5_fill 5 2 := ⟨_, _, rfl, ⟨sw_big_in (List.mem_of_getElem? (i := 730) (by decide +kernel)) (by decide +kernel), ki_X5_fill, kv_X5_fill, kn_RX5, kc_X5_fill⟩, ⟨by decide +kernel, by decide +kernel, by decide +kernel⟩, by decide⟩
theorem gf_RX11_257 : sw_gf RX11 257 5 3 := ⟨RX5, TX5, 4, cf_5, by decide, sw_big_in (List.mem_of_getElem? (i := 239) (by decide +kernel)) (by decide +kernel), Or.inr trivial⟩
theorem lk_RX11_258 : sw_mv RX11 258 mX5_residueOf 5 2 := ⟨_, _, rfl, ⟨sw_big_in (List.mem_of_getElem? (i := 746) (by decide +kernel)) (by decide +kernel), ki_X5_residueOf, kv_X5_residueOf, kn_RX5, kc_X5_residueOf⟩, ⟨by decide +kernel, by decide +kernel, by decide +kernel⟩, by decide⟩
theorem lk_RX11_261 : sw_mv RX11 261 mX5_letsPass 5 1 := ⟨_, _, rfl, ⟨sw_big_in (List.mem_of_getElem? (i := 757) (by decide +kernel)) (by decide +kernel), ki_X5_letsPass, kv_X5_letsPass, kn_RX5, kc_X5_letsPass⟩, ⟨by decide +kernel, by decide +kernel, by decide +kernel⟩, by decide⟩
theorem gf_RX11_239 : sw_gf RX11 239 11 13 := ⟨RX11, TX11, 15, cf_11, by decide, sw_big_in (List.mem_of_getElem? (i := 334) (by decide +kernel)) (by decide +kernel), Or.inr trivial⟩
theorem gf_RX11_31 : sw_gf RX11 31 11 3 := ⟨RX11, TX11, 15, cf_11, by decide, sw_big_in (List.mem_of_getElem? (i := 324) (by decide +kernel)) (by decide +kernel), Or.inr trivial⟩
theorem lk_RX11_264 : sw_mv RX11 264 mX8_sift 8 2 := ⟨_, _, rfl, ⟨sw_big_in (List.mem_of_getElem? (i := 765) (by decide +kernel)) (by decide +kernel), ki_X8_sift, kv_X8_sift, kn_RX8, kc_X8_sift⟩, ⟨by decide +kernel, by decide +kernel, by decide +kernel⟩, by decide⟩
theorem pf_RX11_268 : sw_pf RX11 268 11 14 := ⟨RX11, TX11, 15, cf_11, by decide, sw_big_in (List.mem_of_getElem? (i := 335) (by decide +kernel)) (by decide +kernel), rfl⟩
theorem gf_RX11_268 : sw_gf RX11 268 11 14 := ⟨RX11, TX11, 15, cf_11, by decide, sw_big_in (List.mem_of_getElem? (i := 335) (by decide +kernel)) (by decide +kernel), Or.inr trivial⟩
theorem gf_RX11_61 : sw_gf RX11 61 11 7 := ⟨RX11, TX11, 15, cf_11, by decide, sw_big_in (List.mem_of_getElem? (i := 328) (by decide +kernel)) (by decide +kernel), Or.inr trivial⟩
theorem lk_RX11_271 : sw_mv RX11 271 mX2_add 2 1 := ⟨_, _, rfl, ⟨sw_big_in (List.mem_of_getElem? (i := 787) (by decide +kernel)) (by decide +kernel), ki_X2_add, kv_X2_add, kn_RX2, kc_X2_add⟩, ⟨by decide +kernel, by decide +kernel, by decide +kernel⟩, by decide⟩
theorem gf_RX11_274 : sw_gf RX11 274 2 1 := ⟨RX2, TX2, 2, cf_2, by decide, sw_big_in (List.mem_of_getElem? (i := 278) (by decide +kernel)) (by decide +kernel), Or.inr trivial⟩
theorem lk_RX11_275 : sw_mv RX11 275 mX2_clear 2 0 := ⟨_, _, rfl, ⟨sw_big_in (List.mem_of_getElem? (i := 795) (by decide +kernel)) (by decide +kernel), ki_X2_clear, kv_X2_clear, kn_RX2, kc_X2_clear⟩, ⟨by decide +kernel, by decide +kernel, by decide +kernel⟩, by decide⟩
theorem gf_RX11_71 : sw_gf RX11 71 11 9 := ⟨RX11, TX11, 15, cf_11, by decide, sw_big_in (List.mem_of_getElem? (i := 330) (by decide +kernel)) (by decide +kernel), Or.inr trivial⟩
theorem lk_RX11_278 : sw_mv RX11 278 mX6_scan 6 2 := ⟨_, _, rfl, ⟨sw_big_in (List.mem_of_getElem? (i := 803) (by decide +kernel)) (by decide +kernel), ki_X6_scan, kv_X6_scan, kn_RX6, kc_X6_scan⟩, ⟨by decide +kernel, by decide +kernel, by decide +kernel⟩, by decide⟩
theorem gf_RX11_282 : sw_gf RX11 282 6 1 := ⟨RX6, TX6, 2, cf_6, by decide, sw_big_in (List.mem_of_getElem? (i := 295) (by decide +kernel)) (by decide +kernel), Or.inr trivial⟩
theorem gf_RX11_285 : sw_gf RX11 285 6 0 := ⟨RX6, TX6, 2, cf_6, by decide, sw_big_in (List.mem_of_getElem? (i := 293) (by decide +kernel)) (by decide +kernel), Or.inr trivial⟩
theorem lk_RX11_288 : sw_mv RX11 288 mX10_isInRange 10 0 := ⟨_, _, rfl, ⟨sw_big_in (List.mem_of_getElem? (i := 506) (by decide +kernel)) (by decide +kernel), ki_X10_isInRange, kv_X10_isInRange, kn_RX10, kc_X10_isInRange⟩, ⟨by decide +kernel, by decide +kernel, by decide +kernel⟩, by decide⟩
theorem gf_RX11_65 : sw_gf RX11 65 11 8 := ⟨RX11, TX11, 15, cf_11, by decide, sw_big_in (List.mem_of_getElem? (i := 329) (by decide +kernel)) (by decide +kernel), Or.inr trivial⟩
theorem lk_RX11_292 : sw_mv RX11 292 mX10_spell 10 2 := ⟨_, _, rfl, ⟨sw_big_in (List.mem_of_getElem? (i := 832) (by decide +kernel)) (by decide +kernel), ki_X10_spell, kv_X10_spell, kn_RX10, kc_X10_spell⟩, ⟨by decide +kernel, by decide +kernel, by decide +kernel⟩, by decide⟩
theorem lk_RX11_296 : sw_mv RX11 296 mX2_at 2 1 := ⟨_, _, rfl, ⟨sw_big_in (List.mem_of_getElem? (i := 841) (by decide +kernel)) (by decide +kernel), ki_X2_at, kv_X2_at, kn_RX2, kc_X2_at⟩, ⟨by decide +kernel, by decide +kernel, by decide +kernel⟩, by decide⟩
theorem lk_RX11_299 : sw_ms RX11 299 mX11_isList 1 := ⟨⟨sw_big_in (List.mem_of_getElem? (i := 846) (by decide +kernel)) (by decide +kernel), ks_X11_isList, kn_RX11, kc_X11_isList⟩, ⟨by decide +kernel, by decide +kernel, by decide +kernel⟩, by decide⟩
theorem gf_RX11_78 : sw_gf RX11 78 11 10 := ⟨RX11, TX11, 15, cf_11, by decide, sw_big_in (List.mem_of_getElem? (i := 331) (by decide +kernel)) (by decide +kernel), Or.inr trivial⟩
theorem lk_RX11_302 : sw_mv RX11 302 mX4_start 4 2 := ⟨_, _, rfl, ⟨sw_big_in (List.mem_of_getElem? (i := 849) (by decide +kernel)) (by decide +kernel), ki_X4_start, kv_X4_start, kn_RX4, kc_X4_start⟩, ⟨by decide +kernel, by decide +kernel, by decide +kernel⟩, by decide⟩
theorem lk_RX11_306 : sw_mv RX11 306 mX4_isMissing 4 1 := ⟨_, _, rfl, ⟨sw_big_in (List.mem_of_getElem? (i := 860) (by decide +kernel)) (by decide +kernel), ki_X4_isMissing, kv_X4_isMissing, kn_RX4, kc_X4_isMissing⟩, ⟨by decide +kernel, by decide +kernel, by decide +kernel⟩, by decide⟩
theorem lk_RX11_309 : sw_mv RX11 309 mX4_has 4 2 := ⟨_, _, rfl, ⟨sw_big_in (List.mem_of_getElem? (i := 864) (by decide +kernel)) (by decide +kernel), ki_X4_has, kv_X4_has, kn_RX4, kc_X4_has⟩, ⟨by decide +kernel, by decide +kernel, by decide +kernel⟩, by decide⟩
theorem gf_RX11_312 : sw_gf RX11 312 4 0 := ⟨RX4, TX4, 2, cf_4, by decide, sw_big_in (List.mem_of_getElem? (i := 313) (by decide +kernel)) (by decide +kernel), Or.inr trivial⟩
theorem lk_RX11_316 : sw_ms RX11 316 mJ9_min_7cf53 2 := ⟨⟨sw_big_in (List.mem_of_getElem? (i := 876) (by decide +kernel)) (by decide +kernel), ks_J9_min_7cf53, kn_RJ9, kc_J9_min_7cf53⟩, ⟨by decide +kernel, by decide +kernel, by decide +kernel⟩, by decide⟩
theorem gf_RX11_321 : sw_gf RX11 321 4 1 := ⟨RX4, TX4, 2, cf_4, by decide, sw_big_in (List.mem_of_getElem? (i := 315) (by decide +kernel)) (by decide +kernel), Or.inr trivial⟩
theorem gf_RX11_18 : sw_gf RX11 18 11 1 := ⟨RX11, TX11, 15, cf_11, by decide, sw_big_in (List.mem_of_getElem? (i := 322) (by decide +kernel)) (by decide +kernel), Or.inr trivial⟩
theorem lk_RX11_324 : sw_mv RX11 324 mX3_copy 3 1 := ⟨_, _, rfl, ⟨sw_big_in (List.mem_of_getElem? (i := 885) (by decide +kernel)) (by decide +kernel), ki_X3_copy, kv_X3_copy, kn_RX3, kc_X3_copy⟩, ⟨by decide +kernel, by decide +kernel, by decide +kernel⟩, by decide⟩
theorem pf_RX11_327 : sw_pf RX11 327 11 11 := ⟨RX11, TX11, 15, cf_11, by decide, sw_big_in (List.mem_of_getElem? (i := 332) (by decide +kernel)) (by decide +kernel), rfl⟩
theorem gf_RX11_327 : sw_gf RX11 327 11 11 := ⟨RX11, TX11, 15, cf_11, by decide, sw_big_in (List.mem_of_getElem? (i := 332) (by decide +kernel)) (by decide +kernel), Or.inr trivial⟩
theorem lk_RX11_330 : sw_mv RX11 330 mX4_howManyThere 4 0 := ⟨_, _, rfl, ⟨sw_big_in (List.mem_of_getElem? (i := 908) (by decide +kernel)) (by decide +kernel), ki_X4_howManyThere, kv_X4_howManyThere, kn_RX4, kc_X4_howManyThere⟩, ⟨by decide +kernel, by decide +kernel, by decide +kernel⟩, by decide⟩
theorem lk_RX11_333 : sw_mv RX11 333 mX11_howManyPairs 11 0 := ⟨_, _, rfl, ⟨sw_big_in (List.mem_of_getElem? (i := 912) (by decide +kernel)) (by decide +kernel), ki_X11_howManyPairs, kv_X11_howManyPairs, kn_RX11, kc_X11_howManyPairs⟩, ⟨by decide +kernel, by decide +kernel, by decide +kernel⟩, by decide⟩
theorem kk_RX11_336 : Cond.constant RX11 336 (1103515245) ∈ sw_big := sw_big_in (List.mem_of_getElem? (i := 691) (by decide +kernel)) (by decide +kernel)
theorem kk_RX11_337 : Cond.constant RX11 337 (2147483647) ∈ sw_big := sw_big_in (List.mem_of_getElem? (i := 695) (by decide +kernel)) (by decide +kernel)
theorem kk_RX11_338 : Cond.constant RX11 338 (65536) ∈ sw_big := sw_big_in (List.mem_of_getElem? (i := 696) (by decide +kernel)) (by decide +kernel)
theorem pf_RX11_339 : sw_pf RX11 339 11 12 := ⟨RX11, TX11, 15, cf_11, by decide, sw_big_in (List.mem_of_getElem? (i := 333) (by decide +kernel)) (by decide +kernel), rfl⟩
theorem gf_RX11_339 : sw_gf RX11 339 11 12 := ⟨RX11, TX11, 15, cf_11, by decide, sw_big_in (List.mem_of_getElem? (i := 333) (by decide +kernel)) (by decide +kernel), Or.inr trivial⟩
theorem gf_RX11_24 : sw_gf RX11 24 11 2 := ⟨RX11, TX11, 15, cf_11, by decide, sw_big_in (List.mem_of_getElem? (i := 323) (by decide +kernel)) (by decide +kernel), Or.inr trivial⟩
theorem lk_RX11_342 : sw_mv RX11 342 mX0_fill 0 1 := ⟨_, _, rfl, ⟨sw_big_in (List.mem_of_getElem? (i := 592) (by decide +kernel)) (by decide +kernel), ki_X0_fill, kv_X0_fill, kn_RX0, kc_X0_fill⟩, ⟨by decide +kernel, by decide +kernel, by decide +kernel⟩, by decide⟩
theorem lk_RX11_345 : sw_mv RX11 345 mX10_setProduct 10 3 := ⟨_, _, rfl, ⟨sw_big_in (List.mem_of_getElem? (i := 502) (by decide +kernel)) (by decide +kernel), ki_X10_setProduct, kv_X10_setProduct, kn_RX10, kc_X10_setProduct⟩, ⟨by decide +kernel, by decide +kernel, by decide +kernel⟩, by decide⟩
theorem lk_RX11_349 : sw_mv RX11 349 mX9_set 9 2 := ⟨_, _, rfl, ⟨sw_big_in (List.mem_of_getElem? (i := 530) (by decide +kernel)) (by decide +kernel), ki_X9_set, kv_X9_set, kn_RX9, kc_X9_set⟩, ⟨by decide +kernel, by decide +kernel, by decide +kernel⟩, by decide⟩
theorem gf_RX11_353 : sw_gf RX11 353 9 2 := ⟨RX9, TX9, 3, cf_9, by decide, sw_big_in (List.mem_of_getElem? (i := 183) (by decide +kernel)) (by decide +kernel), Or.inr trivial⟩
theorem gf_RX11_357 : sw_gf RX11 357 9 1 := ⟨RX9, TX9, 3, cf_9, by decide, sw_big_in (List.mem_of_getElem? (i := 181) (by decide +kernel)) (by decide +kernel), Or.inr trivial⟩
theorem lk_RX11_360 : sw_ms RX11 360 mJ9_max_7cf53 2 := ⟨⟨sw_big_in (List.mem_of_getElem? (i := 682) (by decide +kernel)) (by decide +kernel), ks_J9_max_7cf53, kn_RJ9, kc_J9_max_7cf53⟩, ⟨by decide +kernel, by decide +kernel, by decide +kernel⟩, by decide⟩
theorem gf_RX12_83 : sw_gf RX12 83 12 0 := ⟨RX12, TX12, 34, cf_12, by decide, sw_big_in (List.mem_of_getElem? (i := 922) (by decide +kernel)) (by decide +kernel), Or.inr trivial⟩
theorem lk_RX12_87 : sw_ms RX12 87 mX12_in 3 := ⟨⟨sw_big_in (List.mem_of_getElem? (i := 1029) (by decide +kernel)) (by decide +kernel), ks_X12_in, kn_RX12, kc_X12_in⟩, ⟨by decide +kernel, by decide +kernel, by decide +kernel⟩, by decide⟩
theorem gf_RX12_9 : sw_gf RX12 9 12 1 := ⟨RX12, TX12, 34, cf_12, by decide, sw_big_in (List.mem_of_getElem? (i := 923) (by decide +kernel)) (by decide +kernel), Or.inr trivial⟩
theorem lk_RX12_91 : sw_ms RX12 91 mX12_isWhole 1 := ⟨⟨sw_big_in (List.mem_of_getElem? (i := 1032) (by decide +kernel)) (by decide +kernel), ks_X12_isWhole, kn_RX12, kc_X12_isWhole⟩, ⟨by decide +kernel, by decide +kernel, by decide +kernel⟩, by decide⟩
theorem lk_RX12_95 : sw_mv RX12 95 mX12_placeOf 12 1 := ⟨_, _, rfl, ⟨sw_big_in (List.mem_of_getElem? (i := 1035) (by decide +kernel)) (by decide +kernel), ki_X12_placeOf, kv_X12_placeOf, kn_RX12, kc_X12_placeOf⟩, ⟨by decide +kernel, by decide +kernel, by decide +kernel⟩, by decide⟩
theorem lk_RX12_99 : sw_mv RX12 99 mX12_moves 12 2 := ⟨_, _, rfl, ⟨sw_big_in (List.mem_of_getElem? (i := 1039) (by decide +kernel)) (by decide +kernel), ki_X12_moves, kv_X12_moves, kn_RX12, kc_X12_moves⟩, ⟨by decide +kernel, by decide +kernel, by decide +kernel⟩, by decide⟩
theorem gf_RX12_15 : sw_gf RX12 15 12 2 := ⟨RX12, TX12, 34, cf_12, by decide, sw_big_in (List.mem_of_getElem? (i := 924) (by decide +kernel)) (by decide +kernel), Or.inr trivial⟩
theorem gf_RX12_18 : sw_gf RX12 18 12 3 := ⟨RX12, TX12, 34, cf_12, by decide, sw_big_in (List.mem_of_getElem? (i := 925) (by decide +kernel)) (by decide +kernel), Or.inr trivial⟩
theorem pf_RX12_83 : sw_pf RX12 83 12 0 := ⟨RX12, TX12, 34, cf_12, by decide, sw_big_in (List.mem_of_getElem? (i := 922) (by decide +kernel)) (by decide +kernel), rfl⟩
theorem lk_RX12_103 : sw_mv RX12 103 mX12_forgets 12 1 := ⟨_, _, rfl, ⟨sw_big_in (List.mem_of_getElem? (i := 1043) (by decide +kernel)) (by decide +kernel), ki_X12_forgets, kv_X12_forgets, kn_RX12, kc_X12_forgets⟩, ⟨by decide +kernel, by decide +kernel, by decide +kernel⟩, by decide⟩
theorem lk_RX12_106 : sw_mv RX12 106 mX12_isPrime 12 1 := ⟨_, _, rfl, ⟨sw_big_in (List.mem_of_getElem? (i := 1051) (by decide +kernel)) (by decide +kernel), ki_X12_isPrime, kv_X12_isPrime, kn_RX12, kc_X12_isPrime⟩, ⟨by decide +kernel, by decide +kernel, by decide +kernel⟩, by decide⟩
theorem gf_RX12_37 : sw_gf RX12 37 12 11 := ⟨RX12, TX12, 34, cf_12, by decide, sw_big_in (List.mem_of_getElem? (i := 933) (by decide +kernel)) (by decide +kernel), Or.inr trivial⟩
theorem gf_RX12_21 : sw_gf RX12 21 12 4 := ⟨RX12, TX12, 34, cf_12, by decide, sw_big_in (List.mem_of_getElem? (i := 926) (by decide +kernel)) (by decide +kernel), Or.inr trivial⟩
theorem pf_RX12_109 : sw_pf RX12 109 12 14 := ⟨RX12, TX12, 34, cf_12, by decide, sw_big_in (List.mem_of_getElem? (i := 936) (by decide +kernel)) (by decide +kernel), rfl⟩
theorem lk_RX12_112 : sw_mv RX12 112 mX12_belowOf 12 1 := ⟨_, _, rfl, ⟨sw_big_in (List.mem_of_getElem? (i := 1095) (by decide +kernel)) (by decide +kernel), ki_X12_belowOf, kv_X12_belowOf, kn_RX12, kc_X12_belowOf⟩, ⟨by decide +kernel, by decide +kernel, by decide +kernel⟩, by decide⟩
theorem gf_RX12_109 : sw_gf RX12 109 12 14 := ⟨RX12, TX12, 34, cf_12, by decide, sw_big_in (List.mem_of_getElem? (i := 936) (by decide +kernel)) (by decide +kernel), Or.inr trivial⟩
theorem lk_RX12_116 : sw_mv RX12 116 mX12_aboveOf 12 2 := ⟨_, _, rfl, ⟨sw_big_in (List.mem_of_getElem? (i := 1091) (by decide +kernel)) (by decide +kernel), ki_X12_aboveOf, kv_X12_aboveOf, kn_RX12, kc_X12_aboveOf⟩, ⟨by decide +kernel, by decide +kernel, by decide +kernel⟩, by decide⟩
theorem pf_RX12_120 : sw_pf RX12 120 12 15 := ⟨RX12, TX12, 34, cf_12, by decide, sw_big_in (List.mem_of_getElem? (i := 937) (by decide +kernel)) (by decide +kernel), rfl⟩
theorem gf_RX12_120 : sw_gf RX12 120 12 15 := ⟨RX12, TX12, 34, cf_12, by decide, sw_big_in (List.mem_of_getElem? (i := 937) (by decide +kernel)) (by decide +kernel), Or.inr trivial⟩
theorem gf_RX12_40 : sw_gf RX12 40 12 12 := ⟨RX12, TX12, 34, cf_12, by decide, sw_big_in (List.mem_of_getElem? (i := 934) (by decide +kernel)) (by decide +kernel), Or.inr trivial⟩
theorem lk_RX12_123 : sw_ms RX12 123 mJ9_min_7cf53 2 := ⟨⟨sw_big_in (List.mem_of_getElem? (i := 1140) (by decide +kernel)) (by decide +kernel), ks_J9_min_7cf53, kn_RJ9, kc_J9_min_7cf53⟩, ⟨by decide +kernel, by decide +kernel, by decide +kernel⟩, by decide⟩
theorem pf_RX12_129 : sw_pf RX12 129 12 16 := ⟨RX12, TX12, 34, cf_12, by decide, sw_big_in (List.mem_of_getElem? (i := 938) (by decide +kernel)) (by decide +kernel), rfl⟩
theorem gf_RX12_43 : sw_gf RX12 43 12 13 := ⟨RX12, TX12, 34, cf_12, by decide, sw_big_in (List.mem_of_getElem? (i := 935) (by decide +kernel)) (by decide +kernel), Or.inr trivial⟩
theorem lk_RX12_132 : sw_ms RX12 132 mX12_isShelf 1 := ⟨⟨sw_big_in (List.mem_of_getElem? (i := 1071) (by decide +kernel)) (by decide +kernel), ks_X12_isShelf, kn_RX12, kc_X12_isShelf⟩, ⟨by decide +kernel, by decide +kernel, by decide +kernel⟩, by decide⟩
theorem kk_RX12_135 : Cond.constantLong RX12 135 (-9223372036854775808) ∈ sw_big := sw_big_in (List.mem_of_getElem? (i := 1086) (by decide +kernel)) (by decide +kernel)
theorem lk_RX12_137 : sw_mv RX12 137 mX12_looks 12 1 := ⟨_, _, rfl, ⟨sw_big_in (List.mem_of_getElem? (i := 1087) (by decide +kernel)) (by decide +kernel), ki_X12_looks, kv_X12_looks, kn_RX12, kc_X12_looks⟩, ⟨by decide +kernel, by decide +kernel, by decide +kernel⟩, by decide⟩
theorem lk_RX12_141 : sw_ms RX12 141 mJ9_max_7cf53 2 := ⟨⟨sw_big_in (List.mem_of_getElem? (i := 1107) (by decide +kernel)) (by decide +kernel), ks_J9_max_7cf53, kn_RJ9, kc_J9_max_7cf53⟩, ⟨by decide +kernel, by decide +kernel, by decide +kernel⟩, by decide⟩
theorem lk_RX12_144 : sw_mv RX12 144 mX12_heightOf 12 1 := ⟨_, _, rfl, ⟨sw_big_in (List.mem_of_getElem? (i := 1103) (by decide +kernel)) (by decide +kernel), ki_X12_heightOf, kv_X12_heightOf, kn_RX12, kc_X12_heightOf⟩, ⟨by decide +kernel, by decide +kernel, by decide +kernel⟩, by decide⟩
theorem lk_RX12_148 : sw_mv RX12 148 mX12_isInBox 12 1 := ⟨_, _, rfl, ⟨sw_big_in (List.mem_of_getElem? (i := 1112) (by decide +kernel)) (by decide +kernel), ki_X12_isInBox, kv_X12_isInBox, kn_RX12, kc_X12_isInBox⟩, ⟨by decide +kernel, by decide +kernel, by decide +kernel⟩, by decide⟩
theorem lk_RX12_152 : sw_mv RX12 152 mX12_gets 12 3 := ⟨_, _, rfl, ⟨sw_big_in (List.mem_of_getElem? (i := 1124) (by decide +kernel)) (by decide +kernel), ki_X12_gets, kv_X12_gets, kn_RX12, kc_X12_gets⟩, ⟨by decide +kernel, by decide +kernel, by decide +kernel⟩, by decide⟩
theorem lk_RX12_156 : sw_mv RX12 156 mX12_joins 12 4 := ⟨_, _, rfl, ⟨sw_big_in (List.mem_of_getElem? (i := 1120) (by decide +kernel)) (by decide +kernel), ki_X12_joins, kv_X12_joins, kn_RX12, kc_X12_joins⟩, ⟨by decide +kernel, by decide +kernel, by decide +kernel⟩, by decide⟩
theorem lk_RX12_160 : sw_mv RX12 160 mX12_hasMate 12 0 := ⟨_, _, rfl, ⟨sw_big_in (List.mem_of_getElem? (i := 1136) (by decide +kernel)) (by decide +kernel), ki_X12_hasMate, kv_X12_hasMate, kn_RX12, kc_X12_hasMate⟩, ⟨by decide +kernel, by decide +kernel, by decide +kernel⟩, by decide⟩
theorem lk_RX12_164 : sw_mv RX12 164 mX12_hasForm 12 1 := ⟨_, _, rfl, ⟨sw_big_in (List.mem_of_getElem? (i := 1145) (by decide +kernel)) (by decide +kernel), ki_X12_hasForm, kv_X12_hasForm, kn_RX12, kc_X12_hasForm⟩, ⟨by decide +kernel, by decide +kernel, by decide +kernel⟩, by decide⟩
theorem gf_RX12_129 : sw_gf RX12 129 12 16 := ⟨RX12, TX12, 34, cf_12, by decide, sw_big_in (List.mem_of_getElem? (i := 938) (by decide +kernel)) (by decide +kernel), Or.inr trivial⟩
theorem gf_RX12_46 : sw_gf RX12 46 12 17 := ⟨RX12, TX12, 34, cf_12, by decide, sw_big_in (List.mem_of_getElem? (i := 939) (by decide +kernel)) (by decide +kernel), Or.inr trivial⟩
theorem gf_RX12_49 : sw_gf RX12 49 12 18 := ⟨RX12, TX12, 34, cf_12, by decide, sw_big_in (List.mem_of_getElem? (i := 940) (by decide +kernel)) (by decide +kernel), Or.inr trivial⟩
theorem gf_RX12_167 : sw_gf RX12 167 12 19 := ⟨RX12, TX12, 34, cf_12, by decide, sw_big_in (List.mem_of_getElem? (i := 941) (by decide +kernel)) (by decide +kernel), Or.inr trivial⟩
theorem gf_RX12_55 : sw_gf RX12 55 12 21 := ⟨RX12, TX12, 34, cf_12, by decide, sw_big_in (List.mem_of_getElem? (i := 943) (by decide +kernel)) (by decide +kernel), Or.inr trivial⟩
theorem gf_RX12_52 : sw_gf RX12 52 12 20 := ⟨RX12, TX12, 34, cf_12, by decide, sw_big_in (List.mem_of_getElem? (i := 942) (by decide +kernel)) (by decide +kernel), Or.inr trivial⟩
theorem gf_RX12_61 : sw_gf RX12 61 12 23 := ⟨RX12, TX12, 34, cf_12, by decide, sw_big_in (List.mem_of_getElem? (i := 945) (by decide +kernel)) (by decide +kernel), Or.inr trivial⟩
theorem gf_RX12_58 : sw_gf RX12 58 12 22 := ⟨RX12, TX12, 34, cf_12, by decide, sw_big_in (List.mem_of_getElem? (i := 944) (by decide +kernel)) (by decide +kernel), Or.inr trivial⟩
theorem pf_RX12_167 : sw_pf RX12 167 12 19 := ⟨RX12, TX12, 34, cf_12, by decide, sw_big_in (List.mem_of_getElem? (i := 941) (by decide +kernel)) (by decide +kernel), rfl⟩
theorem lk_RX12_170 : sw_mv RX12 170 mX12_looksFirst 12 0 := ⟨_, _, rfl, ⟨sw_big_in (List.mem_of_getElem? (i := 1161) (by decide +kernel)) (by decide +kernel), ki_X12_looksFirst, kv_X12_looksFirst, kn_RX12, kc_X12_looksFirst⟩, ⟨by decide +kernel, by decide +kernel, by decide +kernel⟩, by decide⟩
theorem lk_RX12_173 : sw_mv RX12 173 mX12_isAnswer 12 0 := ⟨_, _, rfl, ⟨sw_big_in (List.mem_of_getElem? (i := 1165) (by decide +kernel)) (by decide +kernel), ki_X12_isAnswer, kv_X12_isAnswer, kn_RX12, kc_X12_isAnswer⟩, ⟨by decide +kernel, by decide +kernel, by decide +kernel⟩, by decide⟩
theorem lk_RX12_176 : sw_mv RX12 176 mX12_answerComes 12 0 := ⟨_, _, rfl, ⟨sw_big_in (List.mem_of_getElem? (i := 1169) (by decide +kernel)) (by decide +kernel), ki_X12_answerComes, kv_X12_answerComes, kn_RX12, kc_X12_answerComes⟩, ⟨by decide +kernel, by decide +kernel, by decide +kernel⟩, by decide⟩
theorem lk_RX12_179 : sw_mv RX12 179 mX12_looksOn 12 0 := ⟨_, _, rfl, ⟨sw_big_in (List.mem_of_getElem? (i := 1173) (by decide +kernel)) (by decide +kernel), ki_X12_looksOn, kv_X12_looksOn, kn_RX12, kc_X12_looksOn⟩, ⟨by decide +kernel, by decide +kernel, by decide +kernel⟩, by decide⟩
theorem lk_RX12_182 : sw_mv RX12 182 mX12_layAnswers 12 0 := ⟨_, _, rfl, ⟨sw_big_in (List.mem_of_getElem? (i := 1157) (by decide +kernel)) (by decide +kernel), ki_X12_layAnswers, kv_X12_layAnswers, kn_RX12, kc_X12_layAnswers⟩, ⟨by decide +kernel, by decide +kernel, by decide +kernel⟩, by decide⟩
theorem lk_RX12_185 : sw_mv RX12 185 mX12_looksAnswer 12 1 := ⟨_, _, rfl, ⟨sw_big_in (List.mem_of_getElem? (i := 1185) (by decide +kernel)) (by decide +kernel), ki_X12_looksAnswer, kv_X12_looksAnswer, kn_RX12, kc_X12_looksAnswer⟩, ⟨by decide +kernel, by decide +kernel, by decide +kernel⟩, by decide⟩
theorem gf_RX12_64 : sw_gf RX12 64 12 24 := ⟨RX12, TX12, 34, cf_12, by decide, sw_big_in (List.mem_of_getElem? (i := 946) (by decide +kernel)) (by decide +kernel), Or.inr trivial⟩
theorem lk_RX12_188 : sw_mv RX12 188 mX12_answerBy 12 2 := ⟨_, _, rfl, ⟨sw_big_in (List.mem_of_getElem? (i := 1193) (by decide +kernel)) (by decide +kernel), ki_X12_answerBy, kv_X12_answerBy, kn_RX12, kc_X12_answerBy⟩, ⟨by decide +kernel, by decide +kernel, by decide +kernel⟩, by decide⟩
theorem lk_RX12_192 : sw_mv RX12 192 mX12_layGroups 12 0 := ⟨_, _, rfl, ⟨sw_big_in (List.mem_of_getElem? (i := 1201) (by decide +kernel)) (by decide +kernel), ki_X12_layGroups, kv_X12_layGroups, kn_RX12, kc_X12_layGroups⟩, ⟨by decide +kernel, by decide +kernel, by decide +kernel⟩, by decide⟩
theorem lk_RX12_195 : sw_mv RX12 195 mX12_groupNumber 12 1 := ⟨_, _, rfl, ⟨sw_big_in (List.mem_of_getElem? (i := 1209) (by decide +kernel)) (by decide +kernel), ki_X12_groupNumber, kv_X12_groupNumber, kn_RX12, kc_X12_groupNumber⟩, ⟨by decide +kernel, by decide +kernel, by decide +kernel⟩, by decide⟩
theorem gf_RX12_198 : sw_gf RX12 198 12 25 := ⟨RX12, TX12, 34, cf_12, by decide, sw_big_in (List.mem_of_getElem? (i := 947) (by decide +kernel)) (by decide +kernel), Or.inr trivial⟩
theorem kk_RX12_201 : Cond.constant RX12 201 (1103515245) ∈ sw_big := sw_big_in (List.mem_of_getElem? (i := 1225) (by decide +kernel)) (by decide +kernel)
theorem pf_RX12_198 : sw_pf RX12 198 12 25 := ⟨RX12, TX12, 34, cf_12, by decide, sw_big_in (List.mem_of_getElem? (i := 947) (by decide +kernel)) (by decide +kernel), rfl⟩
theorem kk_RX12_202 : Cond.constant RX12 202 (2147483647) ∈ sw_big := sw_big_in (List.mem_of_getElem? (i := 1226) (by decide +kernel)) (by decide +kernel)
theorem kk_RX12_203 : Cond.constant RX12 203 (65536) ∈ sw_big := sw_big_in (List.mem_of_getElem? (i := 1227) (by decide +kernel)) (by decide +kernel)
theorem lk_RX12_204 : sw_mv RX12 204 mX12_draw 12 1 := ⟨_, _, rfl, ⟨sw_big_in (List.mem_of_getElem? (i := 1221) (by decide +kernel)) (by decide +kernel), ki_X12_draw, kv_X12_draw, kn_RX12, kc_X12_draw⟩, ⟨by decide +kernel, by decide +kernel, by decide +kernel⟩, by decide⟩
theorem gf_RX12_207 : sw_gf RX12 207 12 5 := ⟨RX12, TX12, 34, cf_12, by decide, sw_big_in (List.mem_of_getElem? (i := 927) (by decide +kernel)) (by decide +kernel), Or.inr trivial⟩
theorem gf_RX12_24 : sw_gf RX12 24 12 6 := ⟨RX12, TX12, 34, cf_12, by decide, sw_big_in (List.mem_of_getElem? (i := 928) (by decide +kernel)) (by decide +kernel), Or.inr trivial⟩
theorem pf_RX12_207 : sw_pf RX12 207 12 5 := ⟨RX12, TX12, 34, cf_12, by decide, sw_big_in (List.mem_of_getElem? (i := 927) (by decide +kernel)) (by decide +kernel), rfl⟩
theorem lk_RX12_210 : sw_ms RX12 210 mX12_isSieve 1 := ⟨⟨sw_big_in (List.mem_of_getElem? (i := 1232) (by decide +kernel)) (by decide +kernel), ks_X12_isSieve, kn_RX12, kc_X12_isSieve⟩, ⟨by decide +kernel, by decide +kernel, by decide +kernel⟩, by decide⟩
theorem gf_RX12_67 : sw_gf RX12 67 12 26 := ⟨RX12, TX12, 34, cf_12, by decide, sw_big_in (List.mem_of_getElem? (i := 948) (by decide +kernel)) (by decide +kernel), Or.inr trivial⟩
theorem lk_RX12_213 : sw_mv RX12 213 mX12_reaches 12 1 := ⟨_, _, rfl, ⟨sw_big_in (List.mem_of_getElem? (i := 1251) (by decide +kernel)) (by decide +kernel), ki_X12_reaches, kv_X12_reaches, kn_RX12, kc_X12_reaches⟩, ⟨by decide +kernel, by decide +kernel, by decide +kernel⟩, by decide⟩
theorem gf_RX12_71 : sw_gf RX12 71 12 27 := ⟨RX12, TX12, 34, cf_12, by decide, sw_big_in (List.mem_of_getElem? (i := 949) (by decide +kernel)) (by decide +kernel), Or.inr trivial⟩
theorem lk_RX12_216 : sw_ms RX12 216 mX12_inverse 2 := ⟨⟨sw_big_in (List.mem_of_getElem? (i := 1263) (by decide +kernel)) (by decide +kernel), ks_X12_inverse, kn_RX12, kc_X12_inverse⟩, ⟨by decide +kernel, by decide +kernel, by decide +kernel⟩, by decide⟩
theorem lk_RX12_219 : sw_mv RX12 219 mX12_layInverses 12 1 := ⟨_, _, rfl, ⟨sw_big_in (List.mem_of_getElem? (i := 1259) (by decide +kernel)) (by decide +kernel), ki_X12_layInverses, kv_X12_layInverses, kn_RX12, kc_X12_layInverses⟩, ⟨by decide +kernel, by decide +kernel, by decide +kernel⟩, by decide⟩
theorem lk_RX12_222 : sw_mv RX12 222 mX12_isPassing 12 1 := ⟨_, _, rfl, ⟨sw_big_in (List.mem_of_getElem? (i := 1266) (by decide +kernel)) (by decide +kernel), ki_X12_isPassing, kv_X12_isPassing, kn_RX12, kc_X12_isPassing⟩, ⟨by decide +kernel, by decide +kernel, by decide +kernel⟩, by decide⟩
theorem gf_RX12_74 : sw_gf RX12 74 12 28 := ⟨RX12, TX12, 34, cf_12, by decide, sw_big_in (List.mem_of_getElem? (i := 950) (by decide +kernel)) (by decide +kernel), Or.inr trivial⟩
theorem gf_RX12_225 : sw_gf RX12 225 12 8 := ⟨RX12, TX12, 34, cf_12, by decide, sw_big_in (List.mem_of_getElem? (i := 930) (by decide +kernel)) (by decide +kernel), Or.inr trivial⟩
theorem gf_RX12_27 : sw_gf RX12 27 12 7 := ⟨RX12, TX12, 34, cf_12, by decide, sw_big_in (List.mem_of_getElem? (i := 929) (by decide +kernel)) (by decide +kernel), Or.inr trivial⟩
theorem pf_RX12_225 : sw_pf RX12 225 12 8 := ⟨RX12, TX12, 34, cf_12, by decide, sw_big_in (List.mem_of_getElem? (i := 930) (by decide +kernel)) (by decide +kernel), rfl⟩
theorem gf_RX12_228 : sw_gf RX12 228 12 29 := ⟨RX12, TX12, 34, cf_12, by decide, sw_big_in (List.mem_of_getElem? (i := 951) (by decide +kernel)) (by decide +kernel), Or.inr trivial⟩
theorem pf_RX12_228 : sw_pf RX12 228 12 29 := ⟨RX12, TX12, 34, cf_12, by decide, sw_big_in (List.mem_of_getElem? (i := 951) (by decide +kernel)) (by decide +kernel), rfl⟩
theorem lk_RX12_231 : sw_mv RX12 231 mX12_isHere 12 2 := ⟨_, _, rfl, ⟨sw_big_in (List.mem_of_getElem? (i := 1298) (by decide +kernel)) (by decide +kernel), ki_X12_isHere, kv_X12_isHere, kn_RX12, kc_X12_isHere⟩, ⟨by decide +kernel, by decide +kernel, by decide +kernel⟩, by decide⟩
theorem lk_RX12_235 : sw_mv RX12 235 mX12_takes 12 1 := ⟨_, _, rfl, ⟨sw_big_in (List.mem_of_getElem? (i := 1290) (by decide +kernel)) (by decide +kernel), ki_X12_takes, kv_X12_takes, kn_RX12, kc_X12_takes⟩, ⟨by decide +kernel, by decide +kernel, by decide +kernel⟩, by decide⟩
theorem lk_RX12_238 : sw_mv RX12 238 mX12_readFactor 12 0 := ⟨_, _, rfl, ⟨sw_big_in (List.mem_of_getElem? (i := 1294) (by decide +kernel)) (by decide +kernel), ki_X12_readFactor, kv_X12_readFactor, kn_RX12, kc_X12_readFactor⟩, ⟨by decide +kernel, by decide +kernel, by decide +kernel⟩, by decide⟩
theorem lk_RX12_241 : sw_mv RX12 241 mX12_readUnit 12 0 := ⟨_, _, rfl, ⟨sw_big_in (List.mem_of_getElem? (i := 1286) (by decide +kernel)) (by decide +kernel), ki_X12_readUnit, kv_X12_readUnit, kn_RX12, kc_X12_readUnit⟩, ⟨by decide +kernel, by decide +kernel, by decide +kernel⟩, by decide⟩
theorem gf_RX12_77 : sw_gf RX12 77 12 30 := ⟨RX12, TX12, 34, cf_12, by decide, sw_big_in (List.mem_of_getElem? (i := 952) (by decide +kernel)) (by decide +kernel), Or.inr trivial⟩
theorem gf_RX12_244 : sw_gf RX12 244 12 31 := ⟨RX12, TX12, 34, cf_12, by decide, sw_big_in (List.mem_of_getElem? (i := 953) (by decide +kernel)) (by decide +kernel), Or.inr trivial⟩
theorem pf_RX12_244 : sw_pf RX12 244 12 31 := ⟨RX12, TX12, 34, cf_12, by decide, sw_big_in (List.mem_of_getElem? (i := 953) (by decide +kernel)) (by decide +kernel), rfl⟩
theorem lk_RX12_247 : sw_mv RX12 247 mX12_writes 12 1 := ⟨_, _, rfl, ⟨sw_big_in (List.mem_of_getElem? (i := 1306) (by decide +kernel)) (by decide +kernel), ki_X12_writes, kv_X12_writes, kn_RX12, kc_X12_writes⟩, ⟨by decide +kernel, by decide +kernel, by decide +kernel⟩, by decide⟩
theorem lk_RX12_250 : sw_mv RX12 250 mX12_writesPower 12 2 := ⟨_, _, rfl, ⟨sw_big_in (List.mem_of_getElem? (i := 1310) (by decide +kernel)) (by decide +kernel), ki_X12_writesPower, kv_X12_writesPower, kn_RX12, kc_X12_writesPower⟩, ⟨by decide +kernel, by decide +kernel, by decide +kernel⟩, by decide⟩
theorem lk_RX12_254 : sw_ms RX12 254 mX12_isList 1 := ⟨⟨sw_big_in (List.mem_of_getElem? (i := 1318) (by decide +kernel)) (by decide +kernel), ks_X12_isList, kn_RX12, kc_X12_isList⟩, ⟨by decide +kernel, by decide +kernel, by decide +kernel⟩, by decide⟩
theorem gf_RX12_30 : sw_gf RX12 30 12 9 := ⟨RX12, TX12, 34, cf_12, by decide, sw_big_in (List.mem_of_getElem? (i := 931) (by decide +kernel)) (by decide +kernel), Or.inr trivial⟩
theorem gf_RX12_33 : sw_gf RX12 33 12 10 := ⟨RX12, TX12, 34, cf_12, by decide, sw_big_in (List.mem_of_getElem? (i := 932) (by decide +kernel)) (by decide +kernel), Or.inr trivial⟩
theorem pf_RX12_257 : sw_pf RX12 257 12 32 := ⟨RX12, TX12, 34, cf_12, by decide, sw_big_in (List.mem_of_getElem? (i := 954) (by decide +kernel)) (by decide +kernel), rfl⟩
theorem gf_RX12_80 : sw_gf RX12 80 12 33 := ⟨RX12, TX12, 34, cf_12, by decide, sw_big_in (List.mem_of_getElem? (i := 955) (by decide +kernel)) (by decide +kernel), Or.inr trivial⟩
theorem gf_RX12_257 : sw_gf RX12 257 12 32 := ⟨RX12, TX12, 34, cf_12, by decide, sw_big_in (List.mem_of_getElem? (i := 954) (by decide +kernel)) (by decide +kernel), Or.inr trivial⟩
