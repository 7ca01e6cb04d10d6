/-- what the fields of a new object hold, by the table of its class -/
def nw_ok (ci N : Nat) : Bool := match vwCl[ci]? with
  | some r => (List.range N).all fun j => match parseFieldDescriptor (r.2.1 j).2.2.1 with
    | some t => decide (defaultValue t = if isR ci j = true then .null else .int 0)
    | none => false
  | none => false
theorem nw_def (ci N : Nat) (h : nw_ok ci N = true) {r : vw_C} (hr : vwCl[ci]? = some r := by rfl) (ty : Nat → FieldType) (j : Nat) (hty : ∀ k, k < N → parseFieldDescriptor (r.2.1 k).2.2.1 = some (ty k)) (hj : j < N) : defaultValue (ty j) = if isR ci j = true then .null else .int 0 := by
  unfold nw_ok at h
  rw [hr] at h
  have h1 := List.all_eq_true.mp h j (List.mem_range.mpr hj)
  rw [hty j hj] at h1
  exact of_decide_eq_true h1
def m_J0_charAt_5068e : MD := (yJ0_charAt_5068e, cJ0_charAt_5068e, 2, (some .char))
def m_J0_checkBoundsBeginEnd_23922 : MD := (yJ0_checkBoundsBeginEnd_23922, cJ0_checkBoundsBeginEnd_23922, 3, none)
def m_J0_checkBoundsOffCount_cabcc : MD := (yJ0_checkBoundsOffCount_cabcc, cJ0_checkBoundsOffCount_cabcc, 3, (some .int))
def m_J0_checkIndex_df160 : MD := (yJ0_checkIndex_df160, cJ0_checkIndex_df160, 2, none)
def m_J0_coder_7d493 : MD := (yJ0_coder_7d493, cJ0_coder_7d493, 1, (some .byte))
def m_J0_getBytes_840e7 : MD := (yJ0_getBytes_840e7, cJ0_getBytes_840e7, 4, none)
def m_J0_init_81219 : MD := (yJ0_init_81219, cJ0_init_81219, 2, none)
def m_J0_init_db425 : MD := (yJ0_init_db425, cJ0_init_db425, 5, none)
def m_J0_isLatin1_aae02 : MD := (yJ0_isLatin1_aae02, cJ0_isLatin1_aae02, 1, (some .boolean))
def m_J0_length_8abf5 : MD := (yJ0_length_8abf5, cJ0_length_8abf5, 1, (some .int))
def m_J1_canEncode_fc78d : MD := (yJ1_canEncode_fc78d, cJ1_canEncode_fc78d, 1, (some .boolean))
def m_J1_charAt_3b067 : MD := (yJ1_charAt_3b067, cJ1_charAt_3b067, 2, (some .char))
def m_J1_fillNull_b72d1 : MD := (yJ1_fillNull_b72d1, cJ1_fillNull_b72d1, 3, none)
def m_J1_inflate_0e8fd : MD := (yJ1_inflate_0e8fd, cJ1_inflate_0e8fd, 5, none)
def m_J2_charAt_3b067 : MD := (yJ2_charAt_3b067, cJ2_charAt_3b067, 2, (some .char))
def m_J2_checkBoundsBeginEnd_d044e : MD := (yJ2_checkBoundsBeginEnd_d044e, cJ2_checkBoundsBeginEnd_d044e, 3, none)
def m_J2_checkBoundsOffCount_d044e : MD := (yJ2_checkBoundsOffCount_d044e, cJ2_checkBoundsOffCount_d044e, 3, none)
def m_J2_checkIndex_2214a : MD := (yJ2_checkIndex_2214a, cJ2_checkIndex_2214a, 2, none)
def m_J2_coderFromArrayLen_85cad : MD := (yJ2_coderFromArrayLen_85cad, cJ2_coderFromArrayLen_85cad, 2, (some .byte))
def m_J2_compress_39247 : MD := (yJ2_compress_39247, cJ2_compress_39247, 6, (some (.array .byte)))
def m_J2_compress_5af95 : MD := (yJ2_compress_5af95, cJ2_compress_5af95, 7, (some .int))
def m_J2_fillNull_b72d1 : MD := (yJ2_fillNull_b72d1, cJ2_fillNull_b72d1, 3, none)
def m_J2_getChar_3b067 : MD := (yJ2_getChar_3b067, cJ2_getChar_3b067, 2, (some .char))
def m_J2_getChars_46870 : MD := (yJ2_getChars_46870, cJ2_getChars_46870, 5, (some .int))
def m_J2_getChars_ba4f3 : MD := (yJ2_getChars_ba4f3, cJ2_getChars_ba4f3, 7, (some .int))
def m_J2_inflate_0e8fd : MD := (yJ2_inflate_0e8fd, cJ2_inflate_0e8fd, 6, none)
def m_J2_length_9d52b : MD := (yJ2_length_9d52b, cJ2_length_9d52b, 1, (some .int))
def m_J2_newBytesFor_77867 : MD := (yJ2_newBytesFor_77867, cJ2_newBytesFor_77867, 1, (some (.array .byte)))
def m_J2_newBytesLength_0f7a4 : MD := (yJ2_newBytesLength_0f7a4, cJ2_newBytesLength_0f7a4, 1, (some .int))
def m_J2_putCharSB_b72d1 : MD := (yJ2_putCharSB_b72d1, cJ2_putCharSB_b72d1, 3, none)
def m_J2_putChar_b72d1 : MD := (yJ2_putChar_b72d1, cJ2_putChar_b72d1, 3, none)
def m_J2_putCharsAt_cd4e5 : MD := (yJ2_putCharsAt_cd4e5, cJ2_putCharsAt_cd4e5, 7, (some .int))
def m_J3_checkFromIndexSize_8c36e : MD := (yJ3_checkFromIndexSize_8c36e, cJ3_checkFromIndexSize_8c36e, 4, (some .int))
def m_J3_checkFromToIndex_8c36e : MD := (yJ3_checkFromToIndex_8c36e, cJ3_checkFromToIndex_8c36e, 4, (some .int))
def m_J3_checkIndex_8e157 : MD := (yJ3_checkIndex_8e157, cJ3_checkIndex_8e157, 3, (some .int))
def m_J4_append_15ec4 : MD := (yJ4_append_15ec4, cJ4_append_15ec4, 2, (some (.object "java/lang/StringBuilder")))
def m_J4_append_bf812 : MD := (yJ4_append_bf812, cJ4_append_bf812, 2, (some (.object "java/lang/StringBuilder")))
def m_J4_append_cf468 : MD := (yJ4_append_cf468, cJ4_append_cf468, 2, (some (.object "java/lang/StringBuilder")))
def m_J4_charAt_5068e : MD := (yJ4_charAt_5068e, cJ4_charAt_5068e, 2, (some .char))
def m_J4_init_da8c8 : MD := (yJ4_init_da8c8, cJ4_init_da8c8, 1, none)
def m_J4_length_8abf5 : MD := (yJ4_length_8abf5, cJ4_length_8abf5, 1, (some .int))
def m_J4_setLength_d00df : MD := (yJ4_setLength_d00df, cJ4_setLength_d00df, 2, none)
def m_J4_toString_0e30d : MD := (yJ4_toString_0e30d, cJ4_toString_0e30d, 1, (some (.object "java/lang/String")))
def m_J5_appendNull_278bc : MD := (yJ5_appendNull_278bc, cJ5_appendNull_278bc, 3, (some (.object "java/lang/AbstractStringBuilder")))
def m_J5_append_3fe6f : MD := (yJ5_append_3fe6f, cJ5_append_3fe6f, 2, (some (.object "java/lang/AbstractStringBuilder")))
def m_J5_append_c97b9 : MD := (yJ5_append_c97b9, cJ5_append_c97b9, 4, (some (.object "java/lang/AbstractStringBuilder")))
def m_J5_append_cf1ce : MD := (yJ5_append_cf1ce, cJ5_append_cf1ce, 3, (some (.object "java/lang/AbstractStringBuilder")))
def m_J5_charAt_5068e : MD := (yJ5_charAt_5068e, cJ5_charAt_5068e, 5, (some .char))
def m_J5_ensureCapacityInternal_d00df : MD := (yJ5_ensureCapacityInternal_d00df, cJ5_ensureCapacityInternal_d00df, 3, none)
def m_J5_getValue_6d5f1 : MD := (yJ5_getValue_6d5f1, cJ5_getValue_6d5f1, 1, (some (.array .byte)))
def m_J5_inflateIfNeededFor_a7421 : MD := (yJ5_inflateIfNeededFor_a7421, cJ5_inflateIfNeededFor_a7421, 2, none)
def m_J5_inflate_da8c8 : MD := (yJ5_inflate_da8c8, cJ5_inflate_da8c8, 2, none)
def m_J5_init_d00df : MD := (yJ5_init_d00df, cJ5_init_d00df, 2, none)
def m_J5_isLatin1_aae02 : MD := (yJ5_isLatin1_aae02, cJ5_isLatin1_aae02, 1, (some .boolean))
def m_J5_length_8abf5 : MD := (yJ5_length_8abf5, cJ5_length_8abf5, 1, (some .int))
def m_J5_newCapacity_0f7a4 : MD := (yJ5_newCapacity_0f7a4, cJ5_newCapacity_0f7a4, 6, (some .int))
def m_J5_putStringAt_47b60 : MD := (yJ5_putStringAt_47b60, cJ5_putStringAt_47b60, 3, none)
def m_J5_setLength_d00df : MD := (yJ5_setLength_d00df, cJ5_setLength_d00df, 2, none)
def m_J6_getChars_ba4f3 : MD := (yJ6_getChars_ba4f3, cJ6_getChars_ba4f3, 7, (some .int))
def m_J6_stringSize_0f7a4 : MD := (yJ6_stringSize_0f7a4, cJ6_stringSize_0f7a4, 4, (some .int))
def m_J7_checkLength_df160 : MD := (yJ7_checkLength_df160, cJ7_checkLength_df160, 2, none)
def m_J7_copyOfRangeByte_39247 : MD := (yJ7_copyOfRangeByte_39247, cJ7_copyOfRangeByte_39247, 5, (some (.array .byte)))
def m_J7_copyOfRange_39247 : MD := (yJ7_copyOfRange_39247, cJ7_copyOfRange_39247, 3, (some (.array .byte)))
def m_J7_copyOf_9075b : MD := (yJ7_copyOf_9075b, cJ7_copyOf_9075b, 3, (some (.array .byte)))
def m_J7_fill_eb02e : MD := (yJ7_fill_eb02e, cJ7_fill_eb02e, 5, none)
def m_J7_rangeCheck_23922 : MD := (yJ7_rangeCheck_23922, cJ7_rangeCheck_23922, 3, none)
def m_J8_hugeLength_7cf53 : MD := (yJ8_hugeLength_7cf53, cJ8_hugeLength_7cf53, 3, (some .int))
def m_J8_newLength_cabcc : MD := (yJ8_newLength_cabcc, cJ8_newLength_cabcc, 4, (some .int))
def m_J9_max_7cf53 : MD := (yJ9_max_7cf53, cJ9_max_7cf53, 2, (some .int))
def m_J9_min_7cf53 : MD := (yJ9_min_7cf53, cJ9_min_7cf53, 2, (some .int))
def m_Jx00060_init_a7421 : MD := (yJx00060_init_a7421, cJx00060_init_a7421, 2, none)
def m_Jx00060_init_d00df : MD := (yJx00060_init_d00df, cJx00060_init_d00df, 2, none)
def m_Jx29ce0_ordinal_8abf5 : MD := (yJx29ce0_ordinal_8abf5, cJx29ce0_ordinal_8abf5, 1, (some .int))
def m_Jx7c733_init_d00df : MD := (yJx7c733_init_d00df, cJx7c733_init_d00df, 2, none)
def m_Jxf58ca_floatToIntBits_5c35a : MD := (yJxf58ca_floatToIntBits_5c35a, cJxf58ca_floatToIntBits_5c35a, 1, (some .int))
def m_Jxf58ca_isNaN_12338 : MD := (yJxf58ca_isNaN_12338, cJxf58ca_isNaN_12338, 1, (some .boolean))
def m_X1_copyFrom : MD := (yX1_copyFrom, cX1_copyFrom, 2, none)
def m_X1_exchangeAttendant : MD := (yX1_exchangeAttendant, cX1_exchangeAttendant, 3, (some .int))
def m_X1_exchangeCupPrice : MD := (yX1_exchangeCupPrice, cX1_exchangeCupPrice, 3, (some .int))
def m_X1_exchangeSteamPrice : MD := (yX1_exchangeSteamPrice, cX1_exchangeSteamPrice, 3, (some .int))
def m_X1_firstCanBeServed : MD := (yX1_firstCanBeServed, cX1_firstCanBeServed, 1, (some .boolean))
def m_X1_init : MD := (yX1_init, cX1_init, 1, none)
def m_X1_kettleForFirst : MD := (yX1_kettleForFirst, cX1_kettleForFirst, 1, (some .int))
def m_X1_passMinutes : MD := (yX1_passMinutes, cX1_passMinutes, 7, (some .int))
def m_X1_perform : MD := (yX1_perform, cX1_perform, 6, (some .int))
def m_X1_refusal : MD := (yX1_refusal, cX1_refusal, 6, (some (.object "TeaHouse$Refusal")))
def m_X1_refusalToFill : MD := (yX1_refusalToFill, cX1_refusalToFill, 4, (some (.object "TeaHouse$Refusal")))
def m_X1_sell : MD := (yX1_sell, cX1_sell, 3, (some .int))
def m_X1_serveFirst : MD := (yX1_serveFirst, cX1_serveFirst, 4, (some .int))
def m_X1_unless : MD := (yX1_unless, cX1_unless, 2, (some (.object "TeaHouse$Refusal")))
def m_X2_accept : MD := (yX2_accept, cX2_accept, 2, (some .boolean))
def m_X2_add : MD := (yX2_add, cX2_add, 2, none)
def m_X2_argument : MD := (yX2_argument, cX2_argument, 3, (some .int))
def m_X2_init : MD := (yX2_init, cX2_init, 1, none)
def m_X2_matchedLength : MD := (yX2_matchedLength, cX2_matchedLength, 3, (some .int))
def m_X2_parse : MD := (yX2_parse, cX2_parse, 1, (some .boolean))
def m_X2_parseCommand : MD := (yX2_parseCommand, cX2_parseCommand, 5, (some .boolean))
def m_X2_parseDigits : MD := (yX2_parseDigits, cX2_parseDigits, 5, (some .boolean))
def m_X2_parseWord : MD := (yX2_parseWord, cX2_parseWord, 5, (some .int))
def m_X3_add : MD := (yX3_add, cX3_add, 3, (some .int))
def m_X3_copyFrom : MD := (yX3_copyFrom, cX3_copyFrom, 3, none)
def m_X3_describe : MD := (yX3_describe, cX3_describe, 3, none)
def m_X3_has : MD := (yX3_has, cX3_has, 2, (some .boolean))
def m_X3_heated : MD := (yX3_heated, cX3_heated, 2, (some .int))
def m_X3_heatingTime : MD := (yX3_heatingTime, cX3_heatingTime, 4, (some .int))
def m_X3_init : MD := (yX3_init, cX3_init, 1, none)
def m_X3_isAhead : MD := (yX3_isAhead, cX3_isAhead, 3, (some .boolean))
def m_X3_isRankedOnceEach : MD := (yX3_isRankedOnceEach, cX3_isRankedOnceEach, 4, (some .boolean))
def m_X3_passMinute : MD := (yX3_passMinute, cX3_passMinute, 3, (some .int))
def m_X3_pourIn : MD := (yX3_pourIn, cX3_pourIn, 5, (some .int))
def m_X3_rankOf : MD := (yX3_rankOf, cX3_rankOf, 4, (some .int))
def m_X3_ranked : MD := (yX3_ranked, cX3_ranked, 3, (some .int))
def m_X3_rise : MD := (yX3_rise, cX3_rise, 2, (some .int))
def m_X3_suitable : MD := (yX3_suitable, cX3_suitable, 6, (some .int))
def m_X3_totalVolume : MD := (yX3_totalVolume, cX3_totalVolume, 3, (some .int))
def m_X3_turnBurner : MD := (yX3_turnBurner, cX3_turnBurner, 4, (some .int))
def m_X4_copyFrom : MD := (yX4_copyFrom, cX4_copyFrom, 3, none)
def m_X4_describe : MD := (yX4_describe, cX4_describe, 3, none)
def m_X4_enterCups : MD := (yX4_enterCups, cX4_enterCups, 2, none)
def m_X4_enterNight : MD := (yX4_enterNight, cX4_enterNight, 2, (some .int))
def m_X4_enterSteam : MD := (yX4_enterSteam, cX4_enterSteam, 2, none)
def m_X4_greatestByAdding : MD := (yX4_greatestByAdding, cX4_greatestByAdding, 6, (some .int))
def m_X4_greatestByDifferences : MD := (yX4_greatestByDifferences, cX4_greatestByDifferences, 4, (some .int))
def m_X4_init : MD := (yX4_init, cX4_init, 1, none)
def m_X4_isConsistent : MD := (yX4_isConsistent, cX4_isConsistent, 2, (some .boolean))
def m_X4_rankOf : MD := (yX4_rankOf, cX4_rankOf, 4, (some .int))
def m_X4_ranked : MD := (yX4_ranked, cX4_ranked, 3, (some .int))
def m_X4_totalOfNights : MD := (yX4_totalOfNights, cX4_totalOfNights, 3, (some .int))
def m_X4_totalOfSales : MD := (yX4_totalOfSales, cX4_totalOfSales, 1, (some .int))
def m_X5_add : MD := (yX5_add, cX5_add, 6, (some .int))
def m_X5_copyFrom : MD := (yX5_copyFrom, cX5_copyFrom, 3, none)
def m_X5_copyOrder : MD := (yX5_copyOrder, cX5_copyOrder, 4, none)
def m_X5_describe : MD := (yX5_describe, cX5_describe, 3, none)
def m_X5_find : MD := (yX5_find, cX5_find, 3, (some .int))
def m_X5_init : MD := (yX5_init, cX5_init, 1, none)
def m_X5_isConsistent : MD := (yX5_isConsistent, cX5_isConsistent, 2, (some .boolean))
def m_X5_numberAt : MD := (yX5_numberAt, cX5_numberAt, 2, (some .int))
def m_X5_remove : MD := (yX5_remove, cX5_remove, 3, none)
def m_X8_addKettle : MD := (yX8_addKettle, cX8_addKettle, 2, (some .int))
def m_X8_allHeatingTimesAgree : MD := (yX8_allHeatingTimesAgree, cX8_allHeatingTimesAgree, 2, (some .boolean))
def m_X8_allTemperatureBitsFit : MD := (yX8_allTemperatureBitsFit, cX8_allTemperatureBitsFit, 3, (some .boolean))
def m_X8_append : MD := (yX8_append, cX8_append, 2, (some .int))
def m_X8_bitsOfHalves : MD := (yX8_bitsOfHalves, cX8_bitsOfHalves, 4, (some .int))
def m_X8_boiledTotal : MD := (yX8_boiledTotal, cX8_boiledTotal, 1, (some .float))
def m_X8_burner : MD := (yX8_burner, cX8_burner, 2, (some .int))
def m_X8_canServe : MD := (yX8_canServe, cX8_canServe, 1, (some .boolean))
def m_X8_cancel : MD := (yX8_cancel, cX8_cancel, 2, (some .int))
def m_X8_capacity : MD := (yX8_capacity, cX8_capacity, 2, (some .float))
def m_X8_change : MD := (yX8_change, cX8_change, 6, (some .int))
def m_X8_cleanCups : MD := (yX8_cleanCups, cX8_cleanCups, 1, (some .int))
def m_X8_closeNight : MD := (yX8_closeNight, cX8_closeNight, 1, (some .float))
def m_X8_cupPrice : MD := (yX8_cupPrice, cX8_cupPrice, 1, (some .float))
def m_X8_cupsOf : MD := (yX8_cupsOf, cX8_cupsOf, 3, (some .int))
def m_X8_eighths : MD := (yX8_eighths, cX8_eighths, 1, (some .float))
def m_X8_errorPosition : MD := (yX8_errorPosition, cX8_errorPosition, 1, (some .int))
def m_X8_failedCommand : MD := (yX8_failedCommand, cX8_failedCommand, 1, (some .int))
def m_X8_fill : MD := (yX8_fill, cX8_fill, 3, (some .float))
def m_X8_filledTotal : MD := (yX8_filledTotal, cX8_filledTotal, 1, (some .float))
def m_X8_firstFailureOnTrial : MD := (yX8_firstFailureOnTrial, cX8_firstFailureOnTrial, 7, (some .int))
def m_X8_floatOfBits : MD := (yX8_floatOfBits, cX8_floatOfBits, 4, (some .float))
def m_X8_formatKettle : MD := (yX8_formatKettle, cX8_formatKettle, 2, (some .int))
def m_X8_formatLedger : MD := (yX8_formatLedger, cX8_formatLedger, 1, (some .int))
def m_X8_formatOrder : MD := (yX8_formatOrder, cX8_formatOrder, 3, (some .int))
def m_X8_greatestIncome : MD := (yX8_greatestIncome, cX8_greatestIncome, 2, (some .float))
def m_X8_greatestIncomeBySums : MD := (yX8_greatestIncomeBySums, cX8_greatestIncomeBySums, 2, (some .float))
def m_X8_halves : MD := (yX8_halves, cX8_halves, 1, (some .float))
def m_X8_heatingTimeOnCopy : MD := (yX8_heatingTimeOnCopy, cX8_heatingTimeOnCopy, 3, (some .int))
def m_X8_income : MD := (yX8_income, cX8_income, 1, (some .float))
def m_X8_init : MD := (yX8_init, cX8_init, 2, none)
def m_X8_isBalanced : MD := (yX8_isBalanced, cX8_isBalanced, 1, (some .boolean))
def m_X8_isBoiling : MD := (yX8_isBoiling, cX8_isBoiling, 2, (some .boolean))
def m_X8_isWithin : MD := (yX8_isWithin, cX8_isWithin, 3, (some .boolean))
def m_X8_kettleByTemperature : MD := (yX8_kettleByTemperature, cX8_kettleByTemperature, 2, (some .int))
def m_X8_kettleCount : MD := (yX8_kettleCount, cX8_kettleCount, 1, (some .int))
def m_X8_kettleFor : MD := (yX8_kettleFor, cX8_kettleFor, 3, (some .int))
def m_X8_lineChar : MD := (yX8_lineChar, cX8_lineChar, 2, (some .char))
def m_X8_lostShare : MD := (yX8_lostShare, cX8_lostShare, 2, (some .float))
def m_X8_meanTemperature : MD := (yX8_meanTemperature, cX8_meanTemperature, 5, (some .double))
def m_X8_minutesUntilBoiling : MD := (yX8_minutesUntilBoiling, cX8_minutesUntilBoiling, 2, (some .int))
def m_X8_minutesUntilBoilingByMinutes : MD := (yX8_minutesUntilBoilingByMinutes, cX8_minutesUntilBoilingByMinutes, 2, (some .int))
def m_X8_minutesUntilSuitable : MD := (yX8_minutesUntilSuitable, cX8_minutesUntilSuitable, 3, (some .int))
def m_X8_nightByIncome : MD := (yX8_nightByIncome, cX8_nightByIncome, 2, (some .int))
def m_X8_nightCount : MD := (yX8_nightCount, cX8_nightCount, 1, (some .int))
def m_X8_nightIncome : MD := (yX8_nightIncome, cX8_nightIncome, 2, (some .float))
def m_X8_order : MD := (yX8_order, cX8_order, 5, (some .int))
def m_X8_orderAt : MD := (yX8_orderAt, cX8_orderAt, 2, (some .int))
def m_X8_pass : MD := (yX8_pass, cX8_pass, 2, (some .int))
def m_X8_positionOf : MD := (yX8_positionOf, cX8_positionOf, 2, (some .int))
def m_X8_pouredTotal : MD := (yX8_pouredTotal, cX8_pouredTotal, 1, (some .float))
def m_X8_priceOf : MD := (yX8_priceOf, cX8_priceOf, 3, (some .float))
def m_X8_remember : MD := (yX8_remember, cX8_remember, 1, none)
def m_X8_requireAllowed : MD := (yX8_requireAllowed, cX8_requireAllowed, 1, none)
def m_X8_requireFound : MD := (yX8_requireFound, cX8_requireFound, 1, (some .int))
def m_X8_requireKettle : MD := (yX8_requireKettle, cX8_requireKettle, 2, none)
def m_X8_requireNights : MD := (yX8_requireNights, cX8_requireNights, 2, none)
def m_X8_restore : MD := (yX8_restore, cX8_restore, 1, (some .int))
def m_X8_run : MD := (yX8_run, cX8_run, 3, (some .int))
def m_X8_save : MD := (yX8_save, cX8_save, 1, (some .int))
def m_X8_sellSteam : MD := (yX8_sellSteam, cX8_sellSteam, 2, (some .float))
def m_X8_serveNext : MD := (yX8_serveNext, cX8_serveNext, 1, (some .int))
def m_X8_servedOrders : MD := (yX8_servedOrders, cX8_servedOrders, 1, (some .int))
def m_X8_setAttendant : MD := (yX8_setAttendant, cX8_setAttendant, 2, (some .boolean))
def m_X8_setBurner : MD := (yX8_setBurner, cX8_setBurner, 3, (some .int))
def m_X8_setCupPrice : MD := (yX8_setCupPrice, cX8_setCupPrice, 2, (some .float))
def m_X8_setSteamPrice : MD := (yX8_setSteamPrice, cX8_setSteamPrice, 2, (some .float))
def m_X8_steam : MD := (yX8_steam, cX8_steam, 1, (some .float))
def m_X8_steamPrice : MD := (yX8_steamPrice, cX8_steamPrice, 1, (some .float))
def m_X8_temperature : MD := (yX8_temperature, cX8_temperature, 2, (some .float))
def m_X8_temperatureBits : MD := (yX8_temperatureBits, cX8_temperatureBits, 2, (some .int))
def m_X8_totalIncome : MD := (yX8_totalIncome, cX8_totalIncome, 1, (some .float))
def m_X8_totalIncomeBySales : MD := (yX8_totalIncomeBySales, cX8_totalIncomeBySales, 1, (some .float))
def m_X8_undo : MD := (yX8_undo, cX8_undo, 1, (some .int))
def m_X8_undoableCount : MD := (yX8_undoableCount, cX8_undoableCount, 1, (some .int))
def m_X8_volume : MD := (yX8_volume, cX8_volume, 2, (some .float))
def m_X8_waitOnCopy : MD := (yX8_waitOnCopy, cX8_waitOnCopy, 5, (some .int))
def m_X8_waitingCount : MD := (yX8_waitingCount, cX8_waitingCount, 1, (some .int))
def m_X8_wash : MD := (yX8_wash, cX8_wash, 2, (some .int))
def m_X8_whistlesHeard : MD := (yX8_whistlesHeard, cX8_whistlesHeard, 1, (some .int))
def m_X8_whistlesLost : MD := (yX8_whistlesLost, cX8_whistlesLost, 1, (some .int))
def m_X9_accepts : MD := (yX9_accepts, cX9_accepts, 6, (some .int))
def m_X9_addKettle : MD := (yX9_addKettle, cX9_addKettle, 2, (some .int))
def m_X9_adds : MD := (yX9_adds, cX9_adds, 3, (some .int))
def m_X9_append : MD := (yX9_append, cX9_append, 2, (some .int))
def m_X9_attends : MD := (yX9_attends, cX9_attends, 2, (some .int))
def m_X9_begins : MD := (yX9_begins, cX9_begins, 1, none)
def m_X9_boiledTotal : MD := (yX9_boiledTotal, cX9_boiledTotal, 1, (some .float))
def m_X9_burner : MD := (yX9_burner, cX9_burner, 2, (some .int))
def m_X9_canServe : MD := (yX9_canServe, cX9_canServe, 1, (some .boolean))
def m_X9_cancel : MD := (yX9_cancel, cX9_cancel, 2, (some .int))
def m_X9_cancels : MD := (yX9_cancels, cX9_cancels, 3, (some .int))
def m_X9_capacity : MD := (yX9_capacity, cX9_capacity, 2, (some .float))
def m_X9_cleanCups : MD := (yX9_cleanCups, cX9_cleanCups, 1, (some .int))
def m_X9_closeNight : MD := (yX9_closeNight, cX9_closeNight, 1, (some .float))
def m_X9_closes : MD := (yX9_closes, cX9_closes, 1, (some .int))
def m_X9_command : MD := (yX9_command, cX9_command, 4, none)
def m_X9_copies : MD := (yX9_copies, cX9_copies, 4, none)
def m_X9_cupPrice : MD := (yX9_cupPrice, cX9_cupPrice, 1, (some .float))
def m_X9_cupsOf : MD := (yX9_cupsOf, cX9_cupsOf, 2, (some .int))
def m_X9_does : MD := (yX9_does, cX9_does, 4, (some .int))
def m_X9_earns : MD := (yX9_earns, cX9_earns, 3, none)
def m_X9_eighths : MD := (yX9_eighths, cX9_eighths, 1, (some .float))
def m_X9_ends : MD := (yX9_ends, cX9_ends, 7, (some .int))
def m_X9_errorPosition : MD := (yX9_errorPosition, cX9_errorPosition, 1, (some .int))
def m_X9_failedCommand : MD := (yX9_failedCommand, cX9_failedCommand, 1, (some .int))
def m_X9_fill : MD := (yX9_fill, cX9_fill, 3, (some .float))
def m_X9_filledTotal : MD := (yX9_filledTotal, cX9_filledTotal, 1, (some .float))
def m_X9_fills : MD := (yX9_fills, cX9_fills, 5, (some .int))
def m_X9_find : MD := (yX9_find, cX9_find, 3, (some .int))
def m_X9_formatKettle : MD := (yX9_formatKettle, cX9_formatKettle, 2, (some .int))
def m_X9_formatLedger : MD := (yX9_formatLedger, cX9_formatLedger, 2, (some .int))
def m_X9_formatOrder : MD := (yX9_formatOrder, cX9_formatOrder, 3, (some .int))
def m_X9_goes : MD := (yX9_goes, cX9_goes, 4, none)
def m_X9_greatestIncome : MD := (yX9_greatestIncome, cX9_greatestIncome, 6, (some .float))
def m_X9_greatestIncomeBySums : MD := (yX9_greatestIncomeBySums, cX9_greatestIncomeBySums, 2, (some .float))
def m_X9_halves : MD := (yX9_halves, cX9_halves, 1, (some .float))
def m_X9_heats : MD := (yX9_heats, cX9_heats, 7, (some .int))
def m_X9_in : MD := (yX9_in, cX9_in, 3, (some .boolean))
def m_X9_income : MD := (yX9_income, cX9_income, 1, (some .float))
def m_X9_init : MD := (yX9_init, cX9_init, 1, none)
def m_X9_isAhead : MD := (yX9_isAhead, cX9_isAhead, 3, (some .boolean))
def m_X9_isBalanced : MD := (yX9_isBalanced, cX9_isBalanced, 1, (some .boolean))
def m_X9_isBoiling : MD := (yX9_isBoiling, cX9_isBoiling, 2, (some .boolean))
def m_X9_isFine : MD := (yX9_isFine, cX9_isFine, 2, (some .boolean))
def m_X9_isKettle : MD := (yX9_isKettle, cX9_isKettle, 2, (some .boolean))
def m_X9_isServable : MD := (yX9_isServable, cX9_isServable, 2, (some .boolean))
def m_X9_k : MD := (yX9_k, cX9_k, 3, (some .int))
def m_X9_kettleByTemperature : MD := (yX9_kettleByTemperature, cX9_kettleByTemperature, 7, (some .int))
def m_X9_kettleCount : MD := (yX9_kettleCount, cX9_kettleCount, 1, (some .int))
def m_X9_kettleFor : MD := (yX9_kettleFor, cX9_kettleFor, 4, (some .int))
def m_X9_letters : MD := (yX9_letters, cX9_letters, 4, none)
def m_X9_lineChar : MD := (yX9_lineChar, cX9_lineChar, 2, (some .char))
def m_X9_lostShare : MD := (yX9_lostShare, cX9_lostShare, 2, (some .float))
def m_X9_meanTemperature : MD := (yX9_meanTemperature, cX9_meanTemperature, 4, (some .double))
def m_X9_minutesUntilBoiling : MD := (yX9_minutesUntilBoiling, cX9_minutesUntilBoiling, 4, (some .int))
def m_X9_minutesUntilBoilingByMinutes : MD := (yX9_minutesUntilBoilingByMinutes, cX9_minutesUntilBoilingByMinutes, 2, (some .int))
def m_X9_minutesUntilSuitable : MD := (yX9_minutesUntilSuitable, cX9_minutesUntilSuitable, 7, (some .int))
def m_X9_needs : MD := (yX9_needs, cX9_needs, 2, none)
def m_X9_nightByIncome : MD := (yX9_nightByIncome, cX9_nightByIncome, 5, (some .int))
def m_X9_nightCount : MD := (yX9_nightCount, cX9_nightCount, 1, (some .int))
def m_X9_nightIncome : MD := (yX9_nightIncome, cX9_nightIncome, 2, (some .float))
def m_X9_number : MD := (yX9_number, cX9_number, 4, (some .int))
def m_X9_o : MD := (yX9_o, cX9_o, 3, (some .int))
def m_X9_ofKettle : MD := (yX9_ofKettle, cX9_ofKettle, 3, (some .int))
def m_X9_ofOrder : MD := (yX9_ofOrder, cX9_ofOrder, 3, (some .int))
def m_X9_order : MD := (yX9_order, cX9_order, 5, (some .int))
def m_X9_orderAt : MD := (yX9_orderAt, cX9_orderAt, 3, (some .int))
def m_X9_parse : MD := (yX9_parse, cX9_parse, 1, none)
def m_X9_pass : MD := (yX9_pass, cX9_pass, 2, (some .int))
def m_X9_passes : MD := (yX9_passes, cX9_passes, 4, (some .int))
def m_X9_positionOf : MD := (yX9_positionOf, cX9_positionOf, 3, (some .int))
def m_X9_pouredTotal : MD := (yX9_pouredTotal, cX9_pouredTotal, 1, (some .float))
def m_X9_pourer : MD := (yX9_pourer, cX9_pourer, 5, (some .int))
def m_X9_priceOf : MD := (yX9_priceOf, cX9_priceOf, 2, (some .float))
def m_X9_prices : MD := (yX9_prices, cX9_prices, 3, (some .int))
def m_X9_rankOf : MD := (yX9_rankOf, cX9_rankOf, 4, (some .int))
def m_X9_ranked : MD := (yX9_ranked, cX9_ranked, 3, (some .int))
def m_X9_restore : MD := (yX9_restore, cX9_restore, 1, (some .int))
def m_X9_run : MD := (yX9_run, cX9_run, 3, (some .int))
def m_X9_save : MD := (yX9_save, cX9_save, 1, (some .int))
def m_X9_sellSteam : MD := (yX9_sellSteam, cX9_sellSteam, 2, (some .float))
def m_X9_sells : MD := (yX9_sells, cX9_sells, 2, (some .int))
def m_X9_serveNext : MD := (yX9_serveNext, cX9_serveNext, 1, (some .int))
def m_X9_servedOrders : MD := (yX9_servedOrders, cX9_servedOrders, 1, (some .int))
def m_X9_serves : MD := (yX9_serves, cX9_serves, 4, (some .int))
def m_X9_set : MD := (yX9_set, cX9_set, 4, none)
def m_X9_setAttendant : MD := (yX9_setAttendant, cX9_setAttendant, 2, (some .boolean))
def m_X9_setBurner : MD := (yX9_setBurner, cX9_setBurner, 3, (some .int))
def m_X9_setCupPrice : MD := (yX9_setCupPrice, cX9_setCupPrice, 2, (some .float))
def m_X9_setSteamPrice : MD := (yX9_setSteamPrice, cX9_setSteamPrice, 2, (some .float))
def m_X9_sign : MD := (yX9_sign, cX9_sign, 1, (some .int))
def m_X9_steam : MD := (yX9_steam, cX9_steam, 1, (some .float))
def m_X9_steamPrice : MD := (yX9_steamPrice, cX9_steamPrice, 1, (some .float))
def m_X9_temperature : MD := (yX9_temperature, cX9_temperature, 2, (some .float))
def m_X9_temperatureBits : MD := (yX9_temperatureBits, cX9_temperatureBits, 2, (some .int))
def m_X9_thrown : MD := (yX9_thrown, cX9_thrown, 1, (some .int))
def m_X9_told : MD := (yX9_told, cX9_told, 2, (some .int))
def m_X9_totalIncome : MD := (yX9_totalIncome, cX9_totalIncome, 1, (some .float))
def m_X9_totalIncomeBySales : MD := (yX9_totalIncomeBySales, cX9_totalIncomeBySales, 1, (some .float))
def m_X9_turns : MD := (yX9_turns, cX9_turns, 3, (some .int))
def m_X9_undo : MD := (yX9_undo, cX9_undo, 1, (some .int))
def m_X9_undoableCount : MD := (yX9_undoableCount, cX9_undoableCount, 1, (some .int))
def m_X9_volume : MD := (yX9_volume, cX9_volume, 2, (some .float))
def m_X9_waitingCount : MD := (yX9_waitingCount, cX9_waitingCount, 1, (some .int))
def m_X9_wash : MD := (yX9_wash, cX9_wash, 2, (some .int))
def m_X9_washes : MD := (yX9_washes, cX9_washes, 2, (some .int))
def m_X9_whistlesHeard : MD := (yX9_whistlesHeard, cX9_whistlesHeard, 1, (some .int))
def m_X9_whistlesLost : MD := (yX9_whistlesLost, cX9_whistlesLost, 1, (some .int))
def m_X9_word : MD := (yX9_word, cX9_word, 2, (some .int))
def m_X9_writes : MD := (yX9_writes, cX9_writes, 2, none)
def m_X9_writesBehind : MD := (yX9_writesBehind, cX9_writesBehind, 3, none)
def m_X9_writesNumber : MD := (yX9_writesNumber, cX9_writesNumber, 2, none)
theorem oi_X1_3 : Cond.methodLink "TeaHouse$House" 3 Lib.objectInit ∈ TW := TW_of (i := 121) (by decide +kernel) (by decide +kernel)
theorem nw_X1_9 : NW "TeaHouse$House" 9 6 6 := ⟨_, rfl, by decide, rfl, TW_of (i := 122) (by decide +kernel) (by decide +kernel), TW_of (i := 123) (by decide +kernel) (by decide +kernel), TW_of (i := 76) (by decide +kernel) (by decide +kernel), nw_def 6 6 (by decide +kernel)⟩
theorem im_X3_init : Cond.instanceMethod m_X3_init.1 ∈ TW := TW_of (i := 125) (by decide +kernel) (by decide +kernel)
theorem iw_X3 : Cond.initialized "TeaHouse$Kettles" ∈ TW := TW_of (i := 76) (by decide +kernel) (by decide +kernel)
theorem lb_X3_init : ∀ (own : String) (idx : Nat), LkB own idx m_X3_init 0 := fun _ _ => ⟨iw_X3, TW_of (i := 126) (by decide +kernel) (by decide +kernel), ⟨by decide +kernel, by decide +kernel⟩, by decide +kernel, by decide⟩
theorem lk_X1_11 : LkN "TeaHouse$House" 11 m_X3_init "TeaHouse" 0 := ⟨TW_of (i := 124) (by decide +kernel) (by decide +kernel), im_X3_init, rfl, rfl, lb_X3_init _ _⟩
theorem ff_X1_12 : FF "TeaHouse$House" 12 4 0 (.object "TeaHouse$Kettles") := ⟨_, rfl, by decide, by decide, TW_of (i := 223) (by decide +kernel) (by decide +kernel), rfl, by decide +kernel, rfl⟩
theorem nw_X1_18 : NW "TeaHouse$House" 18 8 7 := ⟨_, rfl, by decide, rfl, TW_of (i := 159) (by decide +kernel) (by decide +kernel), TW_of (i := 160) (by decide +kernel) (by decide +kernel), TW_of (i := 77) (by decide +kernel) (by decide +kernel), nw_def 8 7 (by decide +kernel)⟩
theorem im_X5_init : Cond.instanceMethod m_X5_init.1 ∈ TW := TW_of (i := 162) (by decide +kernel) (by decide +kernel)
theorem iw_X5 : Cond.initialized "TeaHouse$Orders" ∈ TW := TW_of (i := 77) (by decide +kernel) (by decide +kernel)
theorem lb_X5_init : ∀ (own : String) (idx : Nat), LkB own idx m_X5_init 0 := fun _ _ => ⟨iw_X5, TW_of (i := 163) (by decide +kernel) (by decide +kernel), ⟨by decide +kernel, by decide +kernel⟩, by decide +kernel, by decide⟩
theorem lk_X1_20 : LkN "TeaHouse$House" 20 m_X5_init "TeaHouse" 0 := ⟨TW_of (i := 161) (by decide +kernel) (by decide +kernel), im_X5_init, rfl, rfl, lb_X5_init _ _⟩
theorem ff_X1_21 : FF "TeaHouse$House" 21 4 1 (.object "TeaHouse$Orders") := ⟨_, rfl, by decide, by decide, TW_of (i := 225) (by decide +kernel) (by decide +kernel), rfl, by decide +kernel, rfl⟩
theorem nw_X1_25 : NW "TeaHouse$House" 25 7 6 := ⟨_, rfl, by decide, rfl, TW_of (i := 194) (by decide +kernel) (by decide +kernel), TW_of (i := 195) (by decide +kernel) (by decide +kernel), TW_of (i := 78) (by decide +kernel) (by decide +kernel), nw_def 7 6 (by decide +kernel)⟩
theorem im_X4_init : Cond.instanceMethod m_X4_init.1 ∈ TW := TW_of (i := 197) (by decide +kernel) (by decide +kernel)
theorem iw_X4 : Cond.initialized "TeaHouse$Ledger" ∈ TW := TW_of (i := 78) (by decide +kernel) (by decide +kernel)
theorem lb_X4_init : ∀ (own : String) (idx : Nat), LkB own idx m_X4_init 0 := fun _ _ => ⟨iw_X4, TW_of (i := 198) (by decide +kernel) (by decide +kernel), ⟨by decide +kernel, by decide +kernel⟩, by decide +kernel, by decide⟩
theorem lk_X1_27 : LkN "TeaHouse$House" 27 m_X4_init "TeaHouse" 0 := ⟨TW_of (i := 196) (by decide +kernel) (by decide +kernel), im_X4_init, rfl, rfl, lb_X4_init _ _⟩
theorem ff_X1_28 : FF "TeaHouse$House" 28 4 2 (.object "TeaHouse$Ledger") := ⟨_, rfl, by decide, by decide, TW_of (i := 227) (by decide +kernel) (by decide +kernel), rfl, by decide +kernel, rfl⟩
theorem pf_X1_32 : PF "TeaHouse$House" 32 4 3 .int := ⟨_, rfl, by decide, by decide, TW_of (i := 229) (by decide +kernel) (by decide +kernel), rfl, by decide +kernel⟩
theorem pf_X1_36 : PF "TeaHouse$House" 36 4 4 .int := ⟨_, rfl, by decide, by decide, TW_of (i := 231) (by decide +kernel) (by decide +kernel), rfl, by decide +kernel⟩
theorem pf_X1_39 : PF "TeaHouse$House" 39 4 5 .int := ⟨_, rfl, by decide, by decide, TW_of (i := 233) (by decide +kernel) (by decide +kernel), rfl, by decide +kernel⟩
theorem pf_X1_42 : PF "TeaHouse$House" 42 4 6 .int := ⟨_, rfl, by decide, by decide, TW_of (i := 235) (by decide +kernel) (by decide +kernel), rfl, by decide +kernel⟩
theorem pf_X1_45 : PF "TeaHouse$House" 45 4 7 .int := ⟨_, rfl, by decide, by decide, TW_of (i := 237) (by decide +kernel) (by decide +kernel), rfl, by decide +kernel⟩
theorem pf_X1_48 : PF "TeaHouse$House" 48 4 8 .int := ⟨_, rfl, by decide, by decide, TW_of (i := 239) (by decide +kernel) (by decide +kernel), rfl, by decide +kernel⟩
theorem pf_X1_51 : PF "TeaHouse$House" 51 4 9 .int := ⟨_, rfl, by decide, by decide, TW_of (i := 241) (by decide +kernel) (by decide +kernel), rfl, by decide +kernel⟩
theorem pf_X1_54 : PF "TeaHouse$House" 54 4 10 .boolean := ⟨_, rfl, by decide, by decide, TW_of (i := 243) (by decide +kernel) (by decide +kernel), rfl, by decide +kernel⟩
theorem pf_X1_58 : PF "TeaHouse$House" 58 4 11 .int := ⟨_, rfl, by decide, by decide, TW_of (i := 244) (by decide +kernel) (by decide +kernel), rfl, by decide +kernel⟩
theorem pf_X1_61 : PF "TeaHouse$House" 61 4 12 .int := ⟨_, rfl, by decide, by decide, TW_of (i := 246) (by decide +kernel) (by decide +kernel), rfl, by decide +kernel⟩
theorem pf_X1_64 : PF "TeaHouse$House" 64 4 13 .int := ⟨_, rfl, by decide, by decide, TW_of (i := 248) (by decide +kernel) (by decide +kernel), rfl, by decide +kernel⟩
theorem gf_X1_12 : GF "TeaHouse$House" 12 4 0 := ⟨_, rfl, by decide, by decide, TW_of (i := 223) (by decide +kernel) (by decide +kernel)⟩
theorem im_X3_copyFrom : Cond.instanceMethod m_X3_copyFrom.1 ∈ TW := TW_of (i := 579) (by decide +kernel) (by decide +kernel)
theorem sl_X3_copyFrom : Cond.selects "TeaHouse$Kettles" m_X3_copyFrom.1 m_X3_copyFrom.1 ∈ TW := TW_of (i := 580) (by decide +kernel) (by decide +kernel)
theorem lb_X3_copyFrom : ∀ (own : String) (idx : Nat), LkB own idx m_X3_copyFrom 1 := fun _ _ => ⟨iw_X3, TW_of (i := 581) (by decide +kernel) (by decide +kernel), ⟨by decide +kernel, by decide +kernel⟩, by decide +kernel, by decide⟩
theorem lk_X1_67 : LkV "TeaHouse$House" 67 "TeaHouse$Kettles" m_X3_copyFrom 1 := ⟨TW_of (i := 578) (by decide +kernel) (by decide +kernel), im_X3_copyFrom, sl_X3_copyFrom, lb_X3_copyFrom _ _⟩
theorem gf_X1_21 : GF "TeaHouse$House" 21 4 1 := ⟨_, rfl, by decide, by decide, TW_of (i := 225) (by decide +kernel) (by decide +kernel)⟩
theorem im_X5_copyFrom : Cond.instanceMethod m_X5_copyFrom.1 ∈ TW := TW_of (i := 583) (by decide +kernel) (by decide +kernel)
theorem sl_X5_copyFrom : Cond.selects "TeaHouse$Orders" m_X5_copyFrom.1 m_X5_copyFrom.1 ∈ TW := TW_of (i := 584) (by decide +kernel) (by decide +kernel)
theorem lb_X5_copyFrom : ∀ (own : String) (idx : Nat), LkB own idx m_X5_copyFrom 1 := fun _ _ => ⟨iw_X5, TW_of (i := 585) (by decide +kernel) (by decide +kernel), ⟨by decide +kernel, by decide +kernel⟩, by decide +kernel, by decide⟩
theorem lk_X1_71 : LkV "TeaHouse$House" 71 "TeaHouse$Orders" m_X5_copyFrom 1 := ⟨TW_of (i := 582) (by decide +kernel) (by decide +kernel), im_X5_copyFrom, sl_X5_copyFrom, lb_X5_copyFrom _ _⟩
theorem gf_X1_28 : GF "TeaHouse$House" 28 4 2 := ⟨_, rfl, by decide, by decide, TW_of (i := 227) (by decide +kernel) (by decide +kernel)⟩
theorem im_X4_copyFrom : Cond.instanceMethod m_X4_copyFrom.1 ∈ TW := TW_of (i := 591) (by decide +kernel) (by decide +kernel)
theorem sl_X4_copyFrom : Cond.selects "TeaHouse$Ledger" m_X4_copyFrom.1 m_X4_copyFrom.1 ∈ TW := TW_of (i := 592) (by decide +kernel) (by decide +kernel)
theorem lb_X4_copyFrom : ∀ (own : String) (idx : Nat), LkB own idx m_X4_copyFrom 1 := fun _ _ => ⟨iw_X4, TW_of (i := 593) (by decide +kernel) (by decide +kernel), ⟨by decide +kernel, by decide +kernel⟩, by decide +kernel, by decide⟩
theorem lk_X1_74 : LkV "TeaHouse$House" 74 "TeaHouse$Ledger" m_X4_copyFrom 1 := ⟨TW_of (i := 590) (by decide +kernel) (by decide +kernel), im_X4_copyFrom, sl_X4_copyFrom, lb_X4_copyFrom _ _⟩
theorem gf_X1_32 : GF "TeaHouse$House" 32 4 3 := ⟨_, rfl, by decide, by decide, TW_of (i := 229) (by decide +kernel) (by decide +kernel)⟩
theorem gf_X1_36 : GF "TeaHouse$House" 36 4 4 := ⟨_, rfl, by decide, by decide, TW_of (i := 231) (by decide +kernel) (by decide +kernel)⟩
theorem gf_X1_39 : GF "TeaHouse$House" 39 4 5 := ⟨_, rfl, by decide, by decide, TW_of (i := 233) (by decide +kernel) (by decide +kernel)⟩
theorem gf_X1_42 : GF "TeaHouse$House" 42 4 6 := ⟨_, rfl, by decide, by decide, TW_of (i := 235) (by decide +kernel) (by decide +kernel)⟩
theorem gf_X1_45 : GF "TeaHouse$House" 45 4 7 := ⟨_, rfl, by decide, by decide, TW_of (i := 237) (by decide +kernel) (by decide +kernel)⟩
theorem gf_X1_48 : GF "TeaHouse$House" 48 4 8 := ⟨_, rfl, by decide, by decide, TW_of (i := 239) (by decide +kernel) (by decide +kernel)⟩
theorem gf_X1_51 : GF "TeaHouse$House" 51 4 9 := ⟨_, rfl, by decide, by decide, TW_of (i := 241) (by decide +kernel) (by decide +kernel)⟩
theorem gf_X1_54 : GF "TeaHouse$House" 54 4 10 := ⟨_, rfl, by decide, by decide, TW_of (i := 243) (by decide +kernel) (by decide +kernel)⟩
theorem gf_X1_58 : GF "TeaHouse$House" 58 4 11 := ⟨_, rfl, by decide, by decide, TW_of (i := 244) (by decide +kernel) (by decide +kernel)⟩
theorem gf_X1_61 : GF "TeaHouse$House" 61 4 12 := ⟨_, rfl, by decide, by decide, TW_of (i := 246) (by decide +kernel) (by decide +kernel)⟩
theorem gf_X1_64 : GF "TeaHouse$House" 64 4 13 := ⟨_, rfl, by decide, by decide, TW_of (i := 248) (by decide +kernel) (by decide +kernel)⟩
theorem gs_X1_77 : Cond.fieldLink "TeaHouse$House" 77 "TeaHouse$1" "$SwitchMap$TeaHouse$Verb" "[I" ∈ TW := TW_of (i := 396) (by decide +kernel) (by decide +kernel)
theorem sm_X8_isWithin : Cond.static m_X8_isWithin.1 ∈ TW := TW_of (i := 405) (by decide +kernel) (by decide +kernel)
theorem iw_X8 : Cond.initialized "TeaHouse" ∈ TW := TW_of (i := 74) (by decide +kernel) (by decide +kernel)
theorem lb_X8_isWithin : ∀ (own : String) (idx : Nat), LkB own idx m_X8_isWithin 3 := fun _ _ => ⟨iw_X8, TW_of (i := 406) (by decide +kernel) (by decide +kernel), ⟨by decide +kernel, by decide +kernel⟩, by decide +kernel, by decide⟩
theorem lk_X1_89 : LkSN "TeaHouse$House" 89 m_X8_isWithin "TeaHouse" 3 := ⟨TW_of (i := 404) (by decide +kernel) (by decide +kernel), sm_X8_isWithin, lb_X8_isWithin _ _⟩
theorem gf_X1_93 : GF "TeaHouse$House" 93 6 5 := ⟨_, rfl, by decide, by decide, TW_of (i := 142) (by decide +kernel) (by decide +kernel)⟩
theorem sm_X1_unless : Cond.static m_X1_unless.1 ∈ TW := TW_of (i := 408) (by decide +kernel) (by decide +kernel)
theorem iw_X1 : Cond.initialized "TeaHouse$House" ∈ TW := TW_of (i := 75) (by decide +kernel) (by decide +kernel)
theorem lb_X1_unless : ∀ (own : String) (idx : Nat), LkB own idx m_X1_unless 2 := fun _ _ => ⟨iw_X1, TW_of (i := 409) (by decide +kernel) (by decide +kernel), ⟨by decide +kernel, by decide +kernel⟩, by decide +kernel, by decide⟩
theorem lk_X1_96 : LkS "TeaHouse$House" 96 m_X1_unless 2 := ⟨TW_of (i := 407) (by decide +kernel) (by decide +kernel), sm_X1_unless, lb_X1_unless _ _⟩
theorem im_X1_refusalToFill : Cond.instanceMethod m_X1_refusalToFill.1 ∈ TW := TW_of (i := 418) (by decide +kernel) (by decide +kernel)
theorem sl_X1_refusalToFill : Cond.selects "TeaHouse$House" m_X1_refusalToFill.1 m_X1_refusalToFill.1 ∈ TW := TW_of (i := 1) (by decide +kernel) (by decide +kernel)
theorem lb_X1_refusalToFill : ∀ (own : String) (idx : Nat), LkB own idx m_X1_refusalToFill 2 := fun _ _ => ⟨iw_X1, TW_of (i := 419) (by decide +kernel) (by decide +kernel), ⟨by decide +kernel, by decide +kernel⟩, by decide +kernel, by decide⟩
theorem lk_X1_100 : LkV "TeaHouse$House" 100 "TeaHouse$House" m_X1_refusalToFill 2 := ⟨TW_of (i := 416) (by decide +kernel) (by decide +kernel), im_X1_refusalToFill, sl_X1_refusalToFill, lb_X1_refusalToFill _ _⟩
theorem im_X3_has : Cond.instanceMethod m_X3_has.1 ∈ TW := TW_of (i := 421) (by decide +kernel) (by decide +kernel)
theorem sl_X3_has : Cond.selects "TeaHouse$Kettles" m_X3_has.1 m_X3_has.1 ∈ TW := TW_of (i := 422) (by decide +kernel) (by decide +kernel)
theorem lb_X3_has : ∀ (own : String) (idx : Nat), LkB own idx m_X3_has 1 := fun _ _ => ⟨iw_X3, TW_of (i := 423) (by decide +kernel) (by decide +kernel), ⟨by decide +kernel, by decide +kernel⟩, by decide +kernel, by decide⟩
theorem lk_X1_104 : LkV "TeaHouse$House" 104 "TeaHouse$Kettles" m_X3_has 1 := ⟨TW_of (i := 420) (by decide +kernel) (by decide +kernel), im_X3_has, sl_X3_has, lb_X3_has _ _⟩
theorem gs_X1_108 : Cond.fieldLink "TeaHouse$House" 108 "TeaHouse$Refusal" "NO_SUCH_KETTLE" "LTeaHouse$Refusal;" ∈ TW := TW_of (i := 424) (by decide +kernel) (by decide +kernel)
theorem gf_X1_114 : GF "TeaHouse$House" 114 8 5 := ⟨_, rfl, by decide, by decide, TW_of (i := 176) (by decide +kernel) (by decide +kernel)⟩
theorem im_X5_find : Cond.instanceMethod m_X5_find.1 ∈ TW := TW_of (i := 427) (by decide +kernel) (by decide +kernel)
theorem sl_X5_find : Cond.selects "TeaHouse$Orders" m_X5_find.1 m_X5_find.1 ∈ TW := TW_of (i := 428) (by decide +kernel) (by decide +kernel)
theorem lb_X5_find : ∀ (own : String) (idx : Nat), LkB own idx m_X5_find 1 := fun _ _ => ⟨iw_X5, TW_of (i := 429) (by decide +kernel) (by decide +kernel), ⟨by decide +kernel, by decide +kernel⟩, by decide +kernel, by decide⟩
theorem lk_X1_115 : LkV "TeaHouse$House" 115 "TeaHouse$Orders" m_X5_find 1 := ⟨TW_of (i := 426) (by decide +kernel) (by decide +kernel), im_X5_find, sl_X5_find, lb_X5_find _ _⟩
theorem gs_X1_119 : Cond.fieldLink "TeaHouse$House" 119 "TeaHouse$Refusal" "NO_SUCH_ORDER" "LTeaHouse$Refusal;" ∈ TW := TW_of (i := 430) (by decide +kernel) (by decide +kernel)
theorem gs_X1_122 : Cond.fieldLink "TeaHouse$House" 122 "TeaHouse$Refusal" "NOTHING" "LTeaHouse$Refusal;" ∈ TW := TW_of (i := 412) (by decide +kernel) (by decide +kernel)
theorem im_X1_firstCanBeServed : Cond.instanceMethod m_X1_firstCanBeServed.1 ∈ TW := TW_of (i := 434) (by decide +kernel) (by decide +kernel)
theorem sl_X1_firstCanBeServed : Cond.selects "TeaHouse$House" m_X1_firstCanBeServed.1 m_X1_firstCanBeServed.1 ∈ TW := TW_of (i := 2) (by decide +kernel) (by decide +kernel)
theorem lb_X1_firstCanBeServed : ∀ (own : String) (idx : Nat), LkB own idx m_X1_firstCanBeServed 0 := fun _ _ => ⟨iw_X1, TW_of (i := 435) (by decide +kernel) (by decide +kernel), ⟨by decide +kernel, by decide +kernel⟩, by decide +kernel, by decide⟩
theorem lk_X1_125 : LkV "TeaHouse$House" 125 "TeaHouse$House" m_X1_firstCanBeServed 0 := ⟨TW_of (i := 432) (by decide +kernel) (by decide +kernel), im_X1_firstCanBeServed, sl_X1_firstCanBeServed, lb_X1_firstCanBeServed _ _⟩
theorem gf_X1_129 : GF "TeaHouse$House" 129 7 2 := ⟨_, rfl, by decide, by decide, TW_of (i := 204) (by decide +kernel) (by decide +kernel)⟩
theorem im_X3_add : Cond.instanceMethod m_X3_add.1 ∈ TW := TW_of (i := 602) (by decide +kernel) (by decide +kernel)
theorem sl_X3_add : Cond.selects "TeaHouse$Kettles" m_X3_add.1 m_X3_add.1 ∈ TW := TW_of (i := 603) (by decide +kernel) (by decide +kernel)
theorem lb_X3_add : ∀ (own : String) (idx : Nat), LkB own idx m_X3_add 1 := fun _ _ => ⟨iw_X3, TW_of (i := 604) (by decide +kernel) (by decide +kernel), ⟨by decide +kernel, by decide +kernel⟩, by decide +kernel, by decide⟩
theorem lk_X1_130 : LkV "TeaHouse$House" 130 "TeaHouse$Kettles" m_X3_add 1 := ⟨TW_of (i := 601) (by decide +kernel) (by decide +kernel), im_X3_add, sl_X3_add, lb_X3_add _ _⟩
theorem im_X3_pourIn : Cond.instanceMethod m_X3_pourIn.1 ∈ TW := TW_of (i := 606) (by decide +kernel) (by decide +kernel)
theorem sl_X3_pourIn : Cond.selects "TeaHouse$Kettles" m_X3_pourIn.1 m_X3_pourIn.1 ∈ TW := TW_of (i := 607) (by decide +kernel) (by decide +kernel)
theorem lb_X3_pourIn : ∀ (own : String) (idx : Nat), LkB own idx m_X3_pourIn 2 := fun _ _ => ⟨iw_X3, TW_of (i := 608) (by decide +kernel) (by decide +kernel), ⟨by decide +kernel, by decide +kernel⟩, by decide +kernel, by decide⟩
theorem lk_X1_133 : LkV "TeaHouse$House" 133 "TeaHouse$Kettles" m_X3_pourIn 2 := ⟨TW_of (i := 605) (by decide +kernel) (by decide +kernel), im_X3_pourIn, sl_X3_pourIn, lb_X3_pourIn _ _⟩
theorem im_X3_turnBurner : Cond.instanceMethod m_X3_turnBurner.1 ∈ TW := TW_of (i := 610) (by decide +kernel) (by decide +kernel)
theorem sl_X3_turnBurner : Cond.selects "TeaHouse$Kettles" m_X3_turnBurner.1 m_X3_turnBurner.1 ∈ TW := TW_of (i := 611) (by decide +kernel) (by decide +kernel)
theorem lb_X3_turnBurner : ∀ (own : String) (idx : Nat), LkB own idx m_X3_turnBurner 2 := fun _ _ => ⟨iw_X3, TW_of (i := 612) (by decide +kernel) (by decide +kernel), ⟨by decide +kernel, by decide +kernel⟩, by decide +kernel, by decide⟩
theorem lk_X1_137 : LkV "TeaHouse$House" 137 "TeaHouse$Kettles" m_X3_turnBurner 2 := ⟨TW_of (i := 609) (by decide +kernel) (by decide +kernel), im_X3_turnBurner, sl_X3_turnBurner, lb_X3_turnBurner _ _⟩
theorem im_X5_add : Cond.instanceMethod m_X5_add.1 ∈ TW := TW_of (i := 614) (by decide +kernel) (by decide +kernel)
theorem sl_X5_add : Cond.selects "TeaHouse$Orders" m_X5_add.1 m_X5_add.1 ∈ TW := TW_of (i := 615) (by decide +kernel) (by decide +kernel)
theorem lb_X5_add : ∀ (own : String) (idx : Nat), LkB own idx m_X5_add 4 := fun _ _ => ⟨iw_X5, TW_of (i := 616) (by decide +kernel) (by decide +kernel), ⟨by decide +kernel, by decide +kernel⟩, by decide +kernel, by decide⟩
theorem lk_X1_140 : LkV "TeaHouse$House" 140 "TeaHouse$Orders" m_X5_add 4 := ⟨TW_of (i := 613) (by decide +kernel) (by decide +kernel), im_X5_add, sl_X5_add, lb_X5_add _ _⟩
theorem im_X5_remove : Cond.instanceMethod m_X5_remove.1 ∈ TW := TW_of (i := 618) (by decide +kernel) (by decide +kernel)
theorem sl_X5_remove : Cond.selects "TeaHouse$Orders" m_X5_remove.1 m_X5_remove.1 ∈ TW := TW_of (i := 619) (by decide +kernel) (by decide +kernel)
theorem lb_X5_remove : ∀ (own : String) (idx : Nat), LkB own idx m_X5_remove 1 := fun _ _ => ⟨iw_X5, TW_of (i := 620) (by decide +kernel) (by decide +kernel), ⟨by decide +kernel, by decide +kernel⟩, by decide +kernel, by decide⟩
theorem lk_X1_143 : LkV "TeaHouse$House" 143 "TeaHouse$Orders" m_X5_remove 1 := ⟨TW_of (i := 617) (by decide +kernel) (by decide +kernel), im_X5_remove, sl_X5_remove, lb_X5_remove _ _⟩
theorem im_X1_serveFirst : Cond.instanceMethod m_X1_serveFirst.1 ∈ TW := TW_of (i := 623) (by decide +kernel) (by decide +kernel)
theorem sl_X1_serveFirst : Cond.selects "TeaHouse$House" m_X1_serveFirst.1 m_X1_serveFirst.1 ∈ TW := TW_of (i := 7) (by decide +kernel) (by decide +kernel)
theorem lb_X1_serveFirst : ∀ (own : String) (idx : Nat), LkB own idx m_X1_serveFirst 0 := fun _ _ => ⟨iw_X1, TW_of (i := 624) (by decide +kernel) (by decide +kernel), ⟨by decide +kernel, by decide +kernel⟩, by decide +kernel, by decide⟩
theorem lk_X1_147 : LkV "TeaHouse$House" 147 "TeaHouse$House" m_X1_serveFirst 0 := ⟨TW_of (i := 621) (by decide +kernel) (by decide +kernel), im_X1_serveFirst, sl_X1_serveFirst, lb_X1_serveFirst _ _⟩
theorem im_X1_sell : Cond.instanceMethod m_X1_sell.1 ∈ TW := TW_of (i := 631) (by decide +kernel) (by decide +kernel)
theorem sl_X1_sell : Cond.selects "TeaHouse$House" m_X1_sell.1 m_X1_sell.1 ∈ TW := TW_of (i := 8) (by decide +kernel) (by decide +kernel)
theorem lb_X1_sell : ∀ (own : String) (idx : Nat), LkB own idx m_X1_sell 1 := fun _ _ => ⟨iw_X1, TW_of (i := 632) (by decide +kernel) (by decide +kernel), ⟨by decide +kernel, by decide +kernel⟩, by decide +kernel, by decide⟩
theorem lk_X1_150 : LkV "TeaHouse$House" 150 "TeaHouse$House" m_X1_sell 1 := ⟨TW_of (i := 629) (by decide +kernel) (by decide +kernel), im_X1_sell, sl_X1_sell, lb_X1_sell _ _⟩
theorem im_X1_passMinutes : Cond.instanceMethod m_X1_passMinutes.1 ∈ TW := TW_of (i := 639) (by decide +kernel) (by decide +kernel)
theorem sl_X1_passMinutes : Cond.selects "TeaHouse$House" m_X1_passMinutes.1 m_X1_passMinutes.1 ∈ TW := TW_of (i := 9) (by decide +kernel) (by decide +kernel)
theorem lb_X1_passMinutes : ∀ (own : String) (idx : Nat), LkB own idx m_X1_passMinutes 1 := fun _ _ => ⟨iw_X1, TW_of (i := 640) (by decide +kernel) (by decide +kernel), ⟨by decide +kernel, by decide +kernel⟩, by decide +kernel, by decide⟩
theorem lk_X1_153 : LkV "TeaHouse$House" 153 "TeaHouse$House" m_X1_passMinutes 1 := ⟨TW_of (i := 637) (by decide +kernel) (by decide +kernel), im_X1_passMinutes, sl_X1_passMinutes, lb_X1_passMinutes _ _⟩
theorem im_X1_exchangeCupPrice : Cond.instanceMethod m_X1_exchangeCupPrice.1 ∈ TW := TW_of (i := 659) (by decide +kernel) (by decide +kernel)
theorem sl_X1_exchangeCupPrice : Cond.selects "TeaHouse$House" m_X1_exchangeCupPrice.1 m_X1_exchangeCupPrice.1 ∈ TW := TW_of (i := 12) (by decide +kernel) (by decide +kernel)
theorem lb_X1_exchangeCupPrice : ∀ (own : String) (idx : Nat), LkB own idx m_X1_exchangeCupPrice 1 := fun _ _ => ⟨iw_X1, TW_of (i := 660) (by decide +kernel) (by decide +kernel), ⟨by decide +kernel, by decide +kernel⟩, by decide +kernel, by decide⟩
theorem lk_X1_156 : LkV "TeaHouse$House" 156 "TeaHouse$House" m_X1_exchangeCupPrice 1 := ⟨TW_of (i := 657) (by decide +kernel) (by decide +kernel), im_X1_exchangeCupPrice, sl_X1_exchangeCupPrice, lb_X1_exchangeCupPrice _ _⟩
theorem im_X1_exchangeSteamPrice : Cond.instanceMethod m_X1_exchangeSteamPrice.1 ∈ TW := TW_of (i := 663) (by decide +kernel) (by decide +kernel)
theorem sl_X1_exchangeSteamPrice : Cond.selects "TeaHouse$House" m_X1_exchangeSteamPrice.1 m_X1_exchangeSteamPrice.1 ∈ TW := TW_of (i := 13) (by decide +kernel) (by decide +kernel)
theorem lb_X1_exchangeSteamPrice : ∀ (own : String) (idx : Nat), LkB own idx m_X1_exchangeSteamPrice 1 := fun _ _ => ⟨iw_X1, TW_of (i := 664) (by decide +kernel) (by decide +kernel), ⟨by decide +kernel, by decide +kernel⟩, by decide +kernel, by decide⟩
theorem lk_X1_159 : LkV "TeaHouse$House" 159 "TeaHouse$House" m_X1_exchangeSteamPrice 1 := ⟨TW_of (i := 661) (by decide +kernel) (by decide +kernel), im_X1_exchangeSteamPrice, sl_X1_exchangeSteamPrice, lb_X1_exchangeSteamPrice _ _⟩
theorem im_X1_exchangeAttendant : Cond.instanceMethod m_X1_exchangeAttendant.1 ∈ TW := TW_of (i := 667) (by decide +kernel) (by decide +kernel)
theorem sl_X1_exchangeAttendant : Cond.selects "TeaHouse$House" m_X1_exchangeAttendant.1 m_X1_exchangeAttendant.1 ∈ TW := TW_of (i := 14) (by decide +kernel) (by decide +kernel)
theorem lb_X1_exchangeAttendant : ∀ (own : String) (idx : Nat), LkB own idx m_X1_exchangeAttendant 1 := fun _ _ => ⟨iw_X1, TW_of (i := 668) (by decide +kernel) (by decide +kernel), ⟨by decide +kernel, by decide +kernel⟩, by decide +kernel, by decide⟩
theorem lk_X1_162 : LkV "TeaHouse$House" 162 "TeaHouse$House" m_X1_exchangeAttendant 1 := ⟨TW_of (i := 665) (by decide +kernel) (by decide +kernel), im_X1_exchangeAttendant, sl_X1_exchangeAttendant, lb_X1_exchangeAttendant _ _⟩
theorem im_X4_enterNight : Cond.instanceMethod m_X4_enterNight.1 ∈ TW := TW_of (i := 670) (by decide +kernel) (by decide +kernel)
theorem sl_X4_enterNight : Cond.selects "TeaHouse$Ledger" m_X4_enterNight.1 m_X4_enterNight.1 ∈ TW := TW_of (i := 671) (by decide +kernel) (by decide +kernel)
theorem lb_X4_enterNight : ∀ (own : String) (idx : Nat), LkB own idx m_X4_enterNight 0 := fun _ _ => ⟨iw_X4, TW_of (i := 672) (by decide +kernel) (by decide +kernel), ⟨by decide +kernel, by decide +kernel⟩, by decide +kernel, by decide⟩
theorem lk_X1_166 : LkV "TeaHouse$House" 166 "TeaHouse$Ledger" m_X4_enterNight 0 := ⟨TW_of (i := 669) (by decide +kernel) (by decide +kernel), im_X4_enterNight, sl_X4_enterNight, lb_X4_enterNight _ _⟩
theorem gs_X1_169 : Cond.fieldLink "TeaHouse$House" 169 "TeaHouse$Refusal" "OUT_OF_RANGE" "LTeaHouse$Refusal;" ∈ TW := TW_of (i := 410) (by decide +kernel) (by decide +kernel)
theorem gs_X1_172 : Cond.fieldLink "TeaHouse$House" 172 "TeaHouse$Refusal" "NOT_NOW" "LTeaHouse$Refusal;" ∈ TW := TW_of (i := 414) (by decide +kernel) (by decide +kernel)
theorem gf_X1_175 : GF "TeaHouse$House" 175 6 1 := ⟨_, rfl, by decide, by decide, TW_of (i := 132) (by decide +kernel) (by decide +kernel)⟩
theorem gf_X1_178 : GF "TeaHouse$House" 178 6 0 := ⟨_, rfl, by decide, by decide, TW_of (i := 129) (by decide +kernel) (by decide +kernel)⟩
theorem gf_X1_181 : GF "TeaHouse$House" 181 8 2 := ⟨_, rfl, by decide, by decide, TW_of (i := 169) (by decide +kernel) (by decide +kernel)⟩
theorem gf_X1_184 : GF "TeaHouse$House" 184 8 3 := ⟨_, rfl, by decide, by decide, TW_of (i := 172) (by decide +kernel) (by decide +kernel)⟩
theorem im_X3_suitable : Cond.instanceMethod m_X3_suitable.1 ∈ TW := TW_of (i := 441) (by decide +kernel) (by decide +kernel)
theorem sl_X3_suitable : Cond.selects "TeaHouse$Kettles" m_X3_suitable.1 m_X3_suitable.1 ∈ TW := TW_of (i := 442) (by decide +kernel) (by decide +kernel)
theorem lb_X3_suitable : ∀ (own : String) (idx : Nat), LkB own idx m_X3_suitable 2 := fun _ _ => ⟨iw_X3, TW_of (i := 443) (by decide +kernel) (by decide +kernel), ⟨by decide +kernel, by decide +kernel⟩, by decide +kernel, by decide⟩
theorem lk_X1_187 : LkV "TeaHouse$House" 187 "TeaHouse$Kettles" m_X3_suitable 2 := ⟨TW_of (i := 440) (by decide +kernel) (by decide +kernel), im_X3_suitable, sl_X3_suitable, lb_X3_suitable _ _⟩
theorem im_X1_kettleForFirst : Cond.instanceMethod m_X1_kettleForFirst.1 ∈ TW := TW_of (i := 438) (by decide +kernel) (by decide +kernel)
theorem sl_X1_kettleForFirst : Cond.selects "TeaHouse$House" m_X1_kettleForFirst.1 m_X1_kettleForFirst.1 ∈ TW := TW_of (i := 3) (by decide +kernel) (by decide +kernel)
theorem lb_X1_kettleForFirst : ∀ (own : String) (idx : Nat), LkB own idx m_X1_kettleForFirst 0 := fun _ _ => ⟨iw_X1, TW_of (i := 439) (by decide +kernel) (by decide +kernel), ⟨by decide +kernel, by decide +kernel⟩, by decide +kernel, by decide⟩
theorem lk_X1_190 : LkV "TeaHouse$House" 190 "TeaHouse$House" m_X1_kettleForFirst 0 := ⟨TW_of (i := 436) (by decide +kernel) (by decide +kernel), im_X1_kettleForFirst, sl_X1_kettleForFirst, lb_X1_kettleForFirst _ _⟩
theorem gf_X1_193 : GF "TeaHouse$House" 193 8 0 := ⟨_, rfl, by decide, by decide, TW_of (i := 166) (by decide +kernel) (by decide +kernel)⟩
theorem im_X4_enterCups : Cond.instanceMethod m_X4_enterCups.1 ∈ TW := TW_of (i := 626) (by decide +kernel) (by decide +kernel)
theorem sl_X4_enterCups : Cond.selects "TeaHouse$Ledger" m_X4_enterCups.1 m_X4_enterCups.1 ∈ TW := TW_of (i := 627) (by decide +kernel) (by decide +kernel)
theorem lb_X4_enterCups : ∀ (own : String) (idx : Nat), LkB own idx m_X4_enterCups 1 := fun _ _ => ⟨iw_X4, TW_of (i := 628) (by decide +kernel) (by decide +kernel), ⟨by decide +kernel, by decide +kernel⟩, by decide +kernel, by decide⟩
theorem lk_X1_196 : LkV "TeaHouse$House" 196 "TeaHouse$Ledger" m_X4_enterCups 1 := ⟨TW_of (i := 625) (by decide +kernel) (by decide +kernel), im_X4_enterCups, sl_X4_enterCups, lb_X4_enterCups _ _⟩
theorem im_X4_enterSteam : Cond.instanceMethod m_X4_enterSteam.1 ∈ TW := TW_of (i := 634) (by decide +kernel) (by decide +kernel)
theorem sl_X4_enterSteam : Cond.selects "TeaHouse$Ledger" m_X4_enterSteam.1 m_X4_enterSteam.1 ∈ TW := TW_of (i := 635) (by decide +kernel) (by decide +kernel)
theorem lb_X4_enterSteam : ∀ (own : String) (idx : Nat), LkB own idx m_X4_enterSteam 1 := fun _ _ => ⟨iw_X4, TW_of (i := 636) (by decide +kernel) (by decide +kernel), ⟨by decide +kernel, by decide +kernel⟩, by decide +kernel, by decide⟩
theorem lk_X1_199 : LkV "TeaHouse$House" 199 "TeaHouse$Ledger" m_X4_enterSteam 1 := ⟨TW_of (i := 633) (by decide +kernel) (by decide +kernel), im_X4_enterSteam, sl_X4_enterSteam, lb_X4_enterSteam _ _⟩
theorem gf_X1_202 : GF "TeaHouse$House" 202 6 4 := ⟨_, rfl, by decide, by decide, TW_of (i := 139) (by decide +kernel) (by decide +kernel)⟩
theorem im_X3_passMinute : Cond.instanceMethod m_X3_passMinute.1 ∈ TW := TW_of (i := 642) (by decide +kernel) (by decide +kernel)
theorem sl_X3_passMinute : Cond.selects "TeaHouse$Kettles" m_X3_passMinute.1 m_X3_passMinute.1 ∈ TW := TW_of (i := 643) (by decide +kernel) (by decide +kernel)
theorem lb_X3_passMinute : ∀ (own : String) (idx : Nat), LkB own idx m_X3_passMinute 1 := fun _ _ => ⟨iw_X3, TW_of (i := 644) (by decide +kernel) (by decide +kernel), ⟨by decide +kernel, by decide +kernel⟩, by decide +kernel, by decide⟩
theorem lk_X1_205 : LkV "TeaHouse$House" 205 "TeaHouse$Kettles" m_X3_passMinute 1 := ⟨TW_of (i := 641) (by decide +kernel) (by decide +kernel), im_X3_passMinute, sl_X3_passMinute, lb_X3_passMinute _ _⟩
theorem oi_X2_3 : Cond.methodLink "TeaHouse$Input" 3 Lib.objectInit ∈ TW := TW_of (i := 287) (by decide +kernel) (by decide +kernel)
theorem ff_X2_9 : FF "TeaHouse$Input" 9 5 0 (.array .char) := ⟨_, rfl, by decide, by decide, TW_of (i := 288) (by decide +kernel) (by decide +kernel), rfl, by decide +kernel, rfl⟩
theorem ff_X2_15 : FF "TeaHouse$Input" 15 5 1 (.array .int) := ⟨_, rfl, by decide, by decide, TW_of (i := 289) (by decide +kernel) (by decide +kernel), rfl, by decide +kernel, rfl⟩
theorem ff_X2_19 : FF "TeaHouse$Input" 19 5 2 (.array .int) := ⟨_, rfl, by decide, by decide, TW_of (i := 291) (by decide +kernel) (by decide +kernel), rfl, by decide +kernel, rfl⟩
theorem pf_X2_22 : PF "TeaHouse$Input" 22 5 3 .int := ⟨_, rfl, by decide, by decide, TW_of (i := 292) (by decide +kernel) (by decide +kernel), rfl, by decide +kernel⟩
theorem pf_X2_26 : PF "TeaHouse$Input" 26 5 4 .int := ⟨_, rfl, by decide, by decide, TW_of (i := 294) (by decide +kernel) (by decide +kernel), rfl, by decide +kernel⟩
theorem pf_X2_29 : PF "TeaHouse$Input" 29 5 5 .int := ⟨_, rfl, by decide, by decide, TW_of (i := 296) (by decide +kernel) (by decide +kernel), rfl, by decide +kernel⟩
theorem gf_X2_22 : GF "TeaHouse$Input" 22 5 3 := ⟨_, rfl, by decide, by decide, TW_of (i := 292) (by decide +kernel) (by decide +kernel)⟩
theorem gf_X2_9 : GF "TeaHouse$Input" 9 5 0 := ⟨_, rfl, by decide, by decide, TW_of (i := 288) (by decide +kernel) (by decide +kernel)⟩
theorem gf_X2_26 : GF "TeaHouse$Input" 26 5 4 := ⟨_, rfl, by decide, by decide, TW_of (i := 294) (by decide +kernel) (by decide +kernel)⟩
theorem im_X2_parseCommand : Cond.instanceMethod m_X2_parseCommand.1 ∈ TW := TW_of (i := 1533) (by decide +kernel) (by decide +kernel)
theorem sl_X2_parseCommand : Cond.selects "TeaHouse$Input" m_X2_parseCommand.1 m_X2_parseCommand.1 ∈ TW := TW_of (i := 24) (by decide +kernel) (by decide +kernel)
theorem iw_X2 : Cond.initialized "TeaHouse$Input" ∈ TW := TW_of (i := 79) (by decide +kernel) (by decide +kernel)
theorem lb_X2_parseCommand : ∀ (own : String) (idx : Nat), LkB own idx m_X2_parseCommand 0 := fun _ _ => ⟨iw_X2, TW_of (i := 1534) (by decide +kernel) (by decide +kernel), ⟨by decide +kernel, by decide +kernel⟩, by decide +kernel, by decide⟩
theorem lk_X2_32 : LkV "TeaHouse$Input" 32 "TeaHouse$Input" m_X2_parseCommand 0 := ⟨TW_of (i := 1531) (by decide +kernel) (by decide +kernel), im_X2_parseCommand, sl_X2_parseCommand, lb_X2_parseCommand _ _⟩
theorem gf_X2_29 : GF "TeaHouse$Input" 29 5 5 := ⟨_, rfl, by decide, by decide, TW_of (i := 296) (by decide +kernel) (by decide +kernel)⟩
theorem im_X2_accept : Cond.instanceMethod m_X2_accept.1 ∈ TW := TW_of (i := 1564) (by decide +kernel) (by decide +kernel)
theorem sl_X2_accept : Cond.selects "TeaHouse$Input" m_X2_accept.1 m_X2_accept.1 ∈ TW := TW_of (i := 27) (by decide +kernel) (by decide +kernel)
theorem lb_X2_accept : ∀ (own : String) (idx : Nat), LkB own idx m_X2_accept 1 := fun _ _ => ⟨iw_X2, TW_of (i := 1565) (by decide +kernel) (by decide +kernel), ⟨by decide +kernel, by decide +kernel⟩, by decide +kernel, by decide⟩
theorem lk_X2_36 : LkV "TeaHouse$Input" 36 "TeaHouse$Input" m_X2_accept 1 := ⟨TW_of (i := 1562) (by decide +kernel) (by decide +kernel), im_X2_accept, sl_X2_accept, lb_X2_accept _ _⟩
theorem gf_X2_19 : GF "TeaHouse$Input" 19 5 2 := ⟨_, rfl, by decide, by decide, TW_of (i := 291) (by decide +kernel) (by decide +kernel)⟩
theorem im_X2_parseWord : Cond.instanceMethod m_X2_parseWord.1 ∈ TW := TW_of (i := 1537) (by decide +kernel) (by decide +kernel)
theorem sl_X2_parseWord : Cond.selects "TeaHouse$Input" m_X2_parseWord.1 m_X2_parseWord.1 ∈ TW := TW_of (i := 25) (by decide +kernel) (by decide +kernel)
theorem lb_X2_parseWord : ∀ (own : String) (idx : Nat), LkB own idx m_X2_parseWord 0 := fun _ _ => ⟨iw_X2, TW_of (i := 1538) (by decide +kernel) (by decide +kernel), ⟨by decide +kernel, by decide +kernel⟩, by decide +kernel, by decide⟩
theorem lk_X2_40 : LkV "TeaHouse$Input" 40 "TeaHouse$Input" m_X2_parseWord 0 := ⟨TW_of (i := 1535) (by decide +kernel) (by decide +kernel), im_X2_parseWord, sl_X2_parseWord, lb_X2_parseWord _ _⟩
theorem gf_X2_15 : GF "TeaHouse$Input" 15 5 1 := ⟨_, rfl, by decide, by decide, TW_of (i := 289) (by decide +kernel) (by decide +kernel)⟩
theorem gs_X2_44 : Cond.fieldLinkNest "TeaHouse$Input" 44 "TeaHouse" "VERBS" "[LTeaHouse$Verb;" "TeaHouse" ∈ TW := TW_of (i := 1539) (by decide +kernel) (by decide +kernel)
theorem gc_X2_48 : Cond.fieldLink "TeaHouse$Input" 48 "TeaHouse$Verb" "kinds" "Ljava/lang/String;" ∈ TW := TW_of (i := 2157) (by decide +kernel) (by decide +kernel)
theorem im_J0_length_8abf5 : Cond.instanceMethod m_J0_length_8abf5.1 ∈ TW := TW_of (i := 928) (by decide +kernel) (by decide +kernel)
theorem sl_J0_length_8abf5 : Cond.selects "java/lang/String" m_J0_length_8abf5.1 m_J0_length_8abf5.1 ∈ TW := TW_of (i := 929) (by decide +kernel) (by decide +kernel)
theorem iw_J0 : Cond.initialized "java/lang/String" ∈ TW := TW_of (i := 82) (by decide +kernel) (by decide +kernel)
theorem lb_J0_length_8abf5 : ∀ (own : String) (idx : Nat), LkB own idx m_J0_length_8abf5 0 := fun _ _ => ⟨iw_J0, TW_of (i := 930) (by decide +kernel) (by decide +kernel), ⟨by decide +kernel, by decide +kernel⟩, by decide +kernel, by decide⟩
theorem lk_X2_54 : LkV "TeaHouse$Input" 54 "java/lang/String" m_J0_length_8abf5 0 := ⟨TW_of (i := 1545) (by decide +kernel) (by decide +kernel), im_J0_length_8abf5, sl_J0_length_8abf5, lb_J0_length_8abf5 _ _⟩
theorem im_J0_charAt_5068e : Cond.instanceMethod m_J0_charAt_5068e.1 ∈ TW := TW_of (i := 1547) (by decide +kernel) (by decide +kernel)
theorem sl_J0_charAt_5068e : Cond.selects "java/lang/String" m_J0_charAt_5068e.1 m_J0_charAt_5068e.1 ∈ TW := TW_of (i := 1548) (by decide +kernel) (by decide +kernel)
theorem lb_J0_charAt_5068e : ∀ (own : String) (idx : Nat), LkB own idx m_J0_charAt_5068e 1 := fun _ _ => ⟨iw_J0, TW_of (i := 1549) (by decide +kernel) (by decide +kernel), ⟨by decide +kernel, by decide +kernel⟩, by decide +kernel, by decide⟩
theorem lk_X2_58 : LkV "TeaHouse$Input" 58 "java/lang/String" m_J0_charAt_5068e 1 := ⟨TW_of (i := 1546) (by decide +kernel) (by decide +kernel), im_J0_charAt_5068e, sl_J0_charAt_5068e, lb_J0_charAt_5068e _ _⟩
theorem im_X2_parseDigits : Cond.instanceMethod m_X2_parseDigits.1 ∈ TW := TW_of (i := 1568) (by decide +kernel) (by decide +kernel)
theorem sl_X2_parseDigits : Cond.selects "TeaHouse$Input" m_X2_parseDigits.1 m_X2_parseDigits.1 ∈ TW := TW_of (i := 28) (by decide +kernel) (by decide +kernel)
theorem lb_X2_parseDigits : ∀ (own : String) (idx : Nat), LkB own idx m_X2_parseDigits 2 := fun _ _ => ⟨iw_X2, TW_of (i := 1569) (by decide +kernel) (by decide +kernel), ⟨by decide +kernel, by decide +kernel⟩, by decide +kernel, by decide⟩
theorem lk_X2_62 : LkV "TeaHouse$Input" 62 "TeaHouse$Input" m_X2_parseDigits 2 := ⟨TW_of (i := 1566) (by decide +kernel) (by decide +kernel), im_X2_parseDigits, sl_X2_parseDigits, lb_X2_parseDigits _ _⟩
theorem gc_X2_66 : Cond.fieldLink "TeaHouse$Input" 66 "TeaHouse$Verb" "word" "Ljava/lang/String;" ∈ TW := TW_of (i := 2156) (by decide +kernel) (by decide +kernel)
theorem im_X2_matchedLength : Cond.instanceMethod m_X2_matchedLength.1 ∈ TW := TW_of (i := 1543) (by decide +kernel) (by decide +kernel)
theorem sl_X2_matchedLength : Cond.selects "TeaHouse$Input" m_X2_matchedLength.1 m_X2_matchedLength.1 ∈ TW := TW_of (i := 26) (by decide +kernel) (by decide +kernel)
theorem lb_X2_matchedLength : ∀ (own : String) (idx : Nat), LkB own idx m_X2_matchedLength 1 := fun _ _ => ⟨iw_X2, TW_of (i := 1544) (by decide +kernel) (by decide +kernel), ⟨by decide +kernel, by decide +kernel⟩, by decide +kernel, by decide⟩
theorem lk_X2_69 : LkV "TeaHouse$Input" 69 "TeaHouse$Input" m_X2_matchedLength 1 := ⟨TW_of (i := 1541) (by decide +kernel) (by decide +kernel), im_X2_matchedLength, sl_X2_matchedLength, lb_X2_matchedLength _ _⟩
theorem mm_X2_73 : Cond.methodLink "TeaHouse$Input" 73 Lib.Math.max.name ∈ TW := TW_of (i := 1561) (by decide +kernel) (by decide +kernel)
theorem oi_X3_3 : Cond.methodLink "TeaHouse$Kettles" 3 Lib.objectInit ∈ TW := TW_of (i := 127) (by decide +kernel) (by decide +kernel)
theorem ff_X3_9 : FF "TeaHouse$Kettles" 9 6 0 (.array .int) := ⟨_, rfl, by decide, by decide, TW_of (i := 128) (by decide +kernel) (by decide +kernel), rfl, by decide +kernel, rfl⟩
theorem ff_X3_15 : FF "TeaHouse$Kettles" 15 6 1 (.array .int) := ⟨_, rfl, by decide, by decide, TW_of (i := 131) (by decide +kernel) (by decide +kernel), rfl, by decide +kernel, rfl⟩
theorem ff_X3_18 : FF "TeaHouse$Kettles" 18 6 2 (.array .int) := ⟨_, rfl, by decide, by decide, TW_of (i := 134) (by decide +kernel) (by decide +kernel), rfl, by decide +kernel, rfl⟩
theorem ff_X3_21 : FF "TeaHouse$Kettles" 21 6 3 (.array .int) := ⟨_, rfl, by decide, by decide, TW_of (i := 136) (by decide +kernel) (by decide +kernel), rfl, by decide +kernel, rfl⟩
theorem ff_X3_24 : FF "TeaHouse$Kettles" 24 6 4 (.array .boolean) := ⟨_, rfl, by decide, by decide, TW_of (i := 138) (by decide +kernel) (by decide +kernel), rfl, by decide +kernel, rfl⟩
theorem pf_X3_28 : PF "TeaHouse$Kettles" 28 6 5 .int := ⟨_, rfl, by decide, by decide, TW_of (i := 141) (by decide +kernel) (by decide +kernel), rfl, by decide +kernel⟩
theorem gf_X3_28 : GF "TeaHouse$Kettles" 28 6 5 := ⟨_, rfl, by decide, by decide, TW_of (i := 141) (by decide +kernel) (by decide +kernel)⟩
theorem gf_X3_9 : GF "TeaHouse$Kettles" 9 6 0 := ⟨_, rfl, by decide, by decide, TW_of (i := 128) (by decide +kernel) (by decide +kernel)⟩
theorem gf_X3_15 : GF "TeaHouse$Kettles" 15 6 1 := ⟨_, rfl, by decide, by decide, TW_of (i := 131) (by decide +kernel) (by decide +kernel)⟩
theorem gf_X3_18 : GF "TeaHouse$Kettles" 18 6 2 := ⟨_, rfl, by decide, by decide, TW_of (i := 134) (by decide +kernel) (by decide +kernel)⟩
theorem gf_X3_21 : GF "TeaHouse$Kettles" 21 6 3 := ⟨_, rfl, by decide, by decide, TW_of (i := 136) (by decide +kernel) (by decide +kernel)⟩
theorem gf_X3_24 : GF "TeaHouse$Kettles" 24 6 4 := ⟨_, rfl, by decide, by decide, TW_of (i := 138) (by decide +kernel) (by decide +kernel)⟩
theorem im_X3_heated : Cond.instanceMethod m_X3_heated.1 ∈ TW := TW_of (i := 647) (by decide +kernel) (by decide +kernel)
theorem sl_X3_heated : Cond.selects "TeaHouse$Kettles" m_X3_heated.1 m_X3_heated.1 ∈ TW := TW_of (i := 10) (by decide +kernel) (by decide +kernel)
theorem lb_X3_heated : ∀ (own : String) (idx : Nat), LkB own idx m_X3_heated 1 := fun _ _ => ⟨iw_X3, TW_of (i := 648) (by decide +kernel) (by decide +kernel), ⟨by decide +kernel, by decide +kernel⟩, by decide +kernel, by decide⟩
theorem lk_X3_32 : LkV "TeaHouse$Kettles" 32 "TeaHouse$Kettles" m_X3_heated 1 := ⟨TW_of (i := 645) (by decide +kernel) (by decide +kernel), im_X3_heated, sl_X3_heated, lb_X3_heated _ _⟩
theorem mm_X3_36 : Cond.methodLink "TeaHouse$Kettles" 36 Lib.Math.min.name ∈ TW := TW_of (i := 653) (by decide +kernel) (by decide +kernel)
theorem im_X3_rise : Cond.instanceMethod m_X3_rise.1 ∈ TW := TW_of (i := 651) (by decide +kernel) (by decide +kernel)
theorem sl_X3_rise : Cond.selects "TeaHouse$Kettles" m_X3_rise.1 m_X3_rise.1 ∈ TW := TW_of (i := 11) (by decide +kernel) (by decide +kernel)
theorem lb_X3_rise : ∀ (own : String) (idx : Nat), LkB own idx m_X3_rise 1 := fun _ _ => ⟨iw_X3, TW_of (i := 652) (by decide +kernel) (by decide +kernel), ⟨by decide +kernel, by decide +kernel⟩, by decide +kernel, by decide⟩
theorem lk_X3_42 : LkV "TeaHouse$Kettles" 42 "TeaHouse$Kettles" m_X3_rise 1 := ⟨TW_of (i := 649) (by decide +kernel) (by decide +kernel), im_X3_rise, sl_X3_rise, lb_X3_rise _ _⟩
theorem mm_X3_45 : Cond.methodLink "TeaHouse$Kettles" 45 Lib.Math.max.name ∈ TW := TW_of (i := 654) (by decide +kernel) (by decide +kernel)
theorem im_X3_rankOf : Cond.instanceMethod m_X3_rankOf.1 ∈ TW := TW_of (i := 798) (by decide +kernel) (by decide +kernel)
theorem sl_X3_rankOf : Cond.selects "TeaHouse$Kettles" m_X3_rankOf.1 m_X3_rankOf.1 ∈ TW := TW_of (i := 15) (by decide +kernel) (by decide +kernel)
theorem lb_X3_rankOf : ∀ (own : String) (idx : Nat), LkB own idx m_X3_rankOf 1 := fun _ _ => ⟨iw_X3, TW_of (i := 799) (by decide +kernel) (by decide +kernel), ⟨by decide +kernel, by decide +kernel⟩, by decide +kernel, by decide⟩
theorem lk_X3_48 : LkV "TeaHouse$Kettles" 48 "TeaHouse$Kettles" m_X3_rankOf 1 := ⟨TW_of (i := 796) (by decide +kernel) (by decide +kernel), im_X3_rankOf, sl_X3_rankOf, lb_X3_rankOf _ _⟩
theorem im_X3_isAhead : Cond.instanceMethod m_X3_isAhead.1 ∈ TW := TW_of (i := 802) (by decide +kernel) (by decide +kernel)
theorem sl_X3_isAhead : Cond.selects "TeaHouse$Kettles" m_X3_isAhead.1 m_X3_isAhead.1 ∈ TW := TW_of (i := 16) (by decide +kernel) (by decide +kernel)
theorem lb_X3_isAhead : ∀ (own : String) (idx : Nat), LkB own idx m_X3_isAhead 2 := fun _ _ => ⟨iw_X3, TW_of (i := 803) (by decide +kernel) (by decide +kernel), ⟨by decide +kernel, by decide +kernel⟩, by decide +kernel, by decide⟩
theorem lk_X3_51 : LkV "TeaHouse$Kettles" 51 "TeaHouse$Kettles" m_X3_isAhead 2 := ⟨TW_of (i := 800) (by decide +kernel) (by decide +kernel), im_X3_isAhead, sl_X3_isAhead, lb_X3_isAhead _ _⟩
theorem im_X3_ranked : Cond.instanceMethod m_X3_ranked.1 ∈ TW := TW_of (i := 793) (by decide +kernel) (by decide +kernel)
theorem sl_X3_ranked : Cond.selects "TeaHouse$Kettles" m_X3_ranked.1 m_X3_ranked.1 ∈ TW := TW_of (i := 794) (by decide +kernel) (by decide +kernel)
theorem lb_X3_ranked : ∀ (own : String) (idx : Nat), LkB own idx m_X3_ranked 1 := fun _ _ => ⟨iw_X3, TW_of (i := 795) (by decide +kernel) (by decide +kernel), ⟨by decide +kernel, by decide +kernel⟩, by decide +kernel, by decide⟩
theorem lk_X3_55 : LkV "TeaHouse$Kettles" 55 "TeaHouse$Kettles" m_X3_ranked 1 := ⟨TW_of (i := 792) (by decide +kernel) (by decide +kernel), im_X3_ranked, sl_X3_ranked, lb_X3_ranked _ _⟩
theorem lk_X3_58 : LkV "TeaHouse$Kettles" 58 "TeaHouse$Kettles" m_X3_has 1 := ⟨TW_of (i := 804) (by decide +kernel) (by decide +kernel), im_X3_has, sl_X3_has, lb_X3_has _ _⟩
theorem im_J4_append_cf468 : Cond.instanceMethod m_J4_append_cf468.1 ∈ TW := TW_of (i := 1115) (by decide +kernel) (by decide +kernel)
theorem sl_J4_append_cf468 : Cond.selects "java/lang/StringBuilder" m_J4_append_cf468.1 m_J4_append_cf468.1 ∈ TW := TW_of (i := 1116) (by decide +kernel) (by decide +kernel)
theorem iw_J4 : Cond.initialized "java/lang/StringBuilder" ∈ TW := TW_of (i := 81) (by decide +kernel) (by decide +kernel)
theorem lb_J4_append_cf468 : ∀ (own : String) (idx : Nat), LkB own idx m_J4_append_cf468 1 := fun _ _ => ⟨iw_J4, TW_of (i := 1117) (by decide +kernel) (by decide +kernel), ⟨by decide +kernel, by decide +kernel⟩, by decide +kernel, by decide⟩
theorem lk_X3_62 : LkV "TeaHouse$Kettles" 62 "java/lang/StringBuilder" m_J4_append_cf468 1 := ⟨TW_of (i := 1469) (by decide +kernel) (by decide +kernel), im_J4_append_cf468, sl_J4_append_cf468, lb_J4_append_cf468 _ _⟩
theorem im_J4_append_bf812 : Cond.instanceMethod m_J4_append_bf812.1 ∈ TW := TW_of (i := 971) (by decide +kernel) (by decide +kernel)
theorem sl_J4_append_bf812 : Cond.selects "java/lang/StringBuilder" m_J4_append_bf812.1 m_J4_append_bf812.1 ∈ TW := TW_of (i := 972) (by decide +kernel) (by decide +kernel)
theorem lb_J4_append_bf812 : ∀ (own : String) (idx : Nat), LkB own idx m_J4_append_bf812 1 := fun _ _ => ⟨iw_J4, TW_of (i := 973) (by decide +kernel) (by decide +kernel), ⟨by decide +kernel, by decide +kernel⟩, by decide +kernel, by decide⟩
theorem lk_X3_68 : LkV "TeaHouse$Kettles" 68 "java/lang/StringBuilder" m_J4_append_bf812 1 := ⟨TW_of (i := 1470) (by decide +kernel) (by decide +kernel), im_J4_append_bf812, sl_J4_append_bf812, lb_J4_append_bf812 _ _⟩
theorem im_J4_append_15ec4 : Cond.instanceMethod m_J4_append_15ec4.1 ∈ TW := TW_of (i := 855) (by decide +kernel) (by decide +kernel)
theorem sl_J4_append_15ec4 : Cond.selects "java/lang/StringBuilder" m_J4_append_15ec4.1 m_J4_append_15ec4.1 ∈ TW := TW_of (i := 856) (by decide +kernel) (by decide +kernel)
theorem lb_J4_append_15ec4 : ∀ (own : String) (idx : Nat), LkB own idx m_J4_append_15ec4 1 := fun _ _ => ⟨iw_J4, TW_of (i := 857) (by decide +kernel) (by decide +kernel), ⟨by decide +kernel, by decide +kernel⟩, by decide +kernel, by decide⟩
theorem lk_X3_73 : LkV "TeaHouse$Kettles" 73 "java/lang/StringBuilder" m_J4_append_15ec4 1 := ⟨TW_of (i := 1472) (by decide +kernel) (by decide +kernel), im_J4_append_15ec4, sl_J4_append_15ec4, lb_J4_append_15ec4 _ _⟩
theorem oi_X4_3 : Cond.methodLink "TeaHouse$Ledger" 3 Lib.objectInit ∈ TW := TW_of (i := 199) (by decide +kernel) (by decide +kernel)
theorem ff_X4_9 : FF "TeaHouse$Ledger" 9 7 0 (.array .int) := ⟨_, rfl, by decide, by decide, TW_of (i := 200) (by decide +kernel) (by decide +kernel), rfl, by decide +kernel, rfl⟩
theorem ff_X4_15 : FF "TeaHouse$Ledger" 15 7 1 (.array .int) := ⟨_, rfl, by decide, by decide, TW_of (i := 202) (by decide +kernel) (by decide +kernel), rfl, by decide +kernel, rfl⟩
theorem pf_X4_18 : PF "TeaHouse$Ledger" 18 7 2 .int := ⟨_, rfl, by decide, by decide, TW_of (i := 203) (by decide +kernel) (by decide +kernel), rfl, by decide +kernel⟩
theorem pf_X4_22 : PF "TeaHouse$Ledger" 22 7 3 .int := ⟨_, rfl, by decide, by decide, TW_of (i := 206) (by decide +kernel) (by decide +kernel), rfl, by decide +kernel⟩
theorem pf_X4_25 : PF "TeaHouse$Ledger" 25 7 4 .int := ⟨_, rfl, by decide, by decide, TW_of (i := 208) (by decide +kernel) (by decide +kernel), rfl, by decide +kernel⟩
theorem pf_X4_28 : PF "TeaHouse$Ledger" 28 7 5 .int := ⟨_, rfl, by decide, by decide, TW_of (i := 209) (by decide +kernel) (by decide +kernel), rfl, by decide +kernel⟩
theorem gf_X4_18 : GF "TeaHouse$Ledger" 18 7 2 := ⟨_, rfl, by decide, by decide, TW_of (i := 203) (by decide +kernel) (by decide +kernel)⟩
theorem gf_X4_22 : GF "TeaHouse$Ledger" 22 7 3 := ⟨_, rfl, by decide, by decide, TW_of (i := 206) (by decide +kernel) (by decide +kernel)⟩
theorem gf_X4_25 : GF "TeaHouse$Ledger" 25 7 4 := ⟨_, rfl, by decide, by decide, TW_of (i := 208) (by decide +kernel) (by decide +kernel)⟩
theorem gf_X4_28 : GF "TeaHouse$Ledger" 28 7 5 := ⟨_, rfl, by decide, by decide, TW_of (i := 209) (by decide +kernel) (by decide +kernel)⟩
theorem gf_X4_9 : GF "TeaHouse$Ledger" 9 7 0 := ⟨_, rfl, by decide, by decide, TW_of (i := 200) (by decide +kernel) (by decide +kernel)⟩
theorem gf_X4_15 : GF "TeaHouse$Ledger" 15 7 1 := ⟨_, rfl, by decide, by decide, TW_of (i := 202) (by decide +kernel) (by decide +kernel)⟩
theorem im_X4_rankOf : Cond.instanceMethod m_X4_rankOf.1 ∈ TW := TW_of (i := 1401) (by decide +kernel) (by decide +kernel)
theorem sl_X4_rankOf : Cond.selects "TeaHouse$Ledger" m_X4_rankOf.1 m_X4_rankOf.1 ∈ TW := TW_of (i := 22) (by decide +kernel) (by decide +kernel)
theorem lb_X4_rankOf : ∀ (own : String) (idx : Nat), LkB own idx m_X4_rankOf 1 := fun _ _ => ⟨iw_X4, TW_of (i := 1402) (by decide +kernel) (by decide +kernel), ⟨by decide +kernel, by decide +kernel⟩, by decide +kernel, by decide⟩
theorem lk_X4_31 : LkV "TeaHouse$Ledger" 31 "TeaHouse$Ledger" m_X4_rankOf 1 := ⟨TW_of (i := 1399) (by decide +kernel) (by decide +kernel), im_X4_rankOf, sl_X4_rankOf, lb_X4_rankOf _ _⟩
theorem mm_X4_35 : Cond.methodLink "TeaHouse$Ledger" 35 Lib.Math.max.name ∈ TW := TW_of (i := 772) (by decide +kernel) (by decide +kernel)
theorem im_X4_greatestByAdding : Cond.instanceMethod m_X4_greatestByAdding.1 ∈ TW := TW_of (i := 769) (by decide +kernel) (by decide +kernel)
theorem sl_X4_greatestByAdding : Cond.selects "TeaHouse$Ledger" m_X4_greatestByAdding.1 m_X4_greatestByAdding.1 ∈ TW := TW_of (i := 770) (by decide +kernel) (by decide +kernel)
theorem lb_X4_greatestByAdding : ∀ (own : String) (idx : Nat), LkB own idx m_X4_greatestByAdding 1 := fun _ _ => ⟨iw_X4, TW_of (i := 771) (by decide +kernel) (by decide +kernel), ⟨by decide +kernel, by decide +kernel⟩, by decide +kernel, by decide⟩
theorem lk_X4_41 : LkV "TeaHouse$Ledger" 41 "TeaHouse$Ledger" m_X4_greatestByAdding 1 := ⟨TW_of (i := 768) (by decide +kernel) (by decide +kernel), im_X4_greatestByAdding, sl_X4_greatestByAdding, lb_X4_greatestByAdding _ _⟩
theorem im_X4_greatestByDifferences : Cond.instanceMethod m_X4_greatestByDifferences.1 ∈ TW := TW_of (i := 774) (by decide +kernel) (by decide +kernel)
theorem sl_X4_greatestByDifferences : Cond.selects "TeaHouse$Ledger" m_X4_greatestByDifferences.1 m_X4_greatestByDifferences.1 ∈ TW := TW_of (i := 775) (by decide +kernel) (by decide +kernel)
theorem lb_X4_greatestByDifferences : ∀ (own : String) (idx : Nat), LkB own idx m_X4_greatestByDifferences 1 := fun _ _ => ⟨iw_X4, TW_of (i := 776) (by decide +kernel) (by decide +kernel), ⟨by decide +kernel, by decide +kernel⟩, by decide +kernel, by decide⟩
theorem lk_X4_44 : LkV "TeaHouse$Ledger" 44 "TeaHouse$Ledger" m_X4_greatestByDifferences 1 := ⟨TW_of (i := 773) (by decide +kernel) (by decide +kernel), im_X4_greatestByDifferences, sl_X4_greatestByDifferences, lb_X4_greatestByDifferences _ _⟩
theorem im_X4_totalOfNights : Cond.instanceMethod m_X4_totalOfNights.1 ∈ TW := TW_of (i := 733) (by decide +kernel) (by decide +kernel)
theorem sl_X4_totalOfNights : Cond.selects "TeaHouse$Ledger" m_X4_totalOfNights.1 m_X4_totalOfNights.1 ∈ TW := TW_of (i := 734) (by decide +kernel) (by decide +kernel)
theorem lb_X4_totalOfNights : ∀ (own : String) (idx : Nat), LkB own idx m_X4_totalOfNights 0 := fun _ _ => ⟨iw_X4, TW_of (i := 735) (by decide +kernel) (by decide +kernel), ⟨by decide +kernel, by decide +kernel⟩, by decide +kernel, by decide⟩
theorem lk_X4_47 : LkV "TeaHouse$Ledger" 47 "TeaHouse$Ledger" m_X4_totalOfNights 0 := ⟨TW_of (i := 777) (by decide +kernel) (by decide +kernel), im_X4_totalOfNights, sl_X4_totalOfNights, lb_X4_totalOfNights _ _⟩
theorem im_X4_totalOfSales : Cond.instanceMethod m_X4_totalOfSales.1 ∈ TW := TW_of (i := 741) (by decide +kernel) (by decide +kernel)
theorem sl_X4_totalOfSales : Cond.selects "TeaHouse$Ledger" m_X4_totalOfSales.1 m_X4_totalOfSales.1 ∈ TW := TW_of (i := 742) (by decide +kernel) (by decide +kernel)
theorem lb_X4_totalOfSales : ∀ (own : String) (idx : Nat), LkB own idx m_X4_totalOfSales 0 := fun _ _ => ⟨iw_X4, TW_of (i := 743) (by decide +kernel) (by decide +kernel), ⟨by decide +kernel, by decide +kernel⟩, by decide +kernel, by decide⟩
theorem lk_X4_51 : LkV "TeaHouse$Ledger" 51 "TeaHouse$Ledger" m_X4_totalOfSales 0 := ⟨TW_of (i := 778) (by decide +kernel) (by decide +kernel), im_X4_totalOfSales, sl_X4_totalOfSales, lb_X4_totalOfSales _ _⟩
theorem lk_X4_54 : LkV "TeaHouse$Ledger" 54 "java/lang/StringBuilder" m_J4_append_cf468 1 := ⟨TW_of (i := 1114) (by decide +kernel) (by decide +kernel), im_J4_append_cf468, sl_J4_append_cf468, lb_J4_append_cf468 _ _⟩
theorem lk_X4_60 : LkV "TeaHouse$Ledger" 60 "java/lang/StringBuilder" m_J4_append_bf812 1 := ⟨TW_of (i := 1136) (by decide +kernel) (by decide +kernel), im_J4_append_bf812, sl_J4_append_bf812, lb_J4_append_bf812 _ _⟩
theorem oi_X5_3 : Cond.methodLink "TeaHouse$Orders" 3 Lib.objectInit ∈ TW := TW_of (i := 164) (by decide +kernel) (by decide +kernel)
theorem ff_X5_9 : FF "TeaHouse$Orders" 9 8 0 (.array .int) := ⟨_, rfl, by decide, by decide, TW_of (i := 165) (by decide +kernel) (by decide +kernel), rfl, by decide +kernel, rfl⟩
theorem ff_X5_15 : FF "TeaHouse$Orders" 15 8 1 (.array .int) := ⟨_, rfl, by decide, by decide, TW_of (i := 167) (by decide +kernel) (by decide +kernel), rfl, by decide +kernel, rfl⟩
theorem ff_X5_18 : FF "TeaHouse$Orders" 18 8 2 (.array .int) := ⟨_, rfl, by decide, by decide, TW_of (i := 168) (by decide +kernel) (by decide +kernel), rfl, by decide +kernel, rfl⟩
theorem ff_X5_21 : FF "TeaHouse$Orders" 21 8 3 (.array .int) := ⟨_, rfl, by decide, by decide, TW_of (i := 171) (by decide +kernel) (by decide +kernel), rfl, by decide +kernel, rfl⟩
theorem ff_X5_24 : FF "TeaHouse$Orders" 24 8 4 (.array .int) := ⟨_, rfl, by decide, by decide, TW_of (i := 174) (by decide +kernel) (by decide +kernel), rfl, by decide +kernel, rfl⟩
theorem pf_X5_27 : PF "TeaHouse$Orders" 27 8 5 .int := ⟨_, rfl, by decide, by decide, TW_of (i := 175) (by decide +kernel) (by decide +kernel), rfl, by decide +kernel⟩
theorem pf_X5_31 : PF "TeaHouse$Orders" 31 8 6 .int := ⟨_, rfl, by decide, by decide, TW_of (i := 178) (by decide +kernel) (by decide +kernel), rfl, by decide +kernel⟩
theorem gf_X5_27 : GF "TeaHouse$Orders" 27 8 5 := ⟨_, rfl, by decide, by decide, TW_of (i := 175) (by decide +kernel) (by decide +kernel)⟩
theorem gf_X5_31 : GF "TeaHouse$Orders" 31 8 6 := ⟨_, rfl, by decide, by decide, TW_of (i := 178) (by decide +kernel) (by decide +kernel)⟩
theorem im_X5_copyOrder : Cond.instanceMethod m_X5_copyOrder.1 ∈ TW := TW_of (i := 588) (by decide +kernel) (by decide +kernel)
theorem sl_X5_copyOrder : Cond.selects "TeaHouse$Orders" m_X5_copyOrder.1 m_X5_copyOrder.1 ∈ TW := TW_of (i := 6) (by decide +kernel) (by decide +kernel)
theorem lb_X5_copyOrder : ∀ (own : String) (idx : Nat), LkB own idx m_X5_copyOrder 3 := fun _ _ => ⟨iw_X5, TW_of (i := 589) (by decide +kernel) (by decide +kernel), ⟨by decide +kernel, by decide +kernel⟩, by decide +kernel, by decide⟩
theorem lk_X5_34 : LkV "TeaHouse$Orders" 34 "TeaHouse$Orders" m_X5_copyOrder 3 := ⟨TW_of (i := 586) (by decide +kernel) (by decide +kernel), im_X5_copyOrder, sl_X5_copyOrder, lb_X5_copyOrder _ _⟩
theorem gf_X5_9 : GF "TeaHouse$Orders" 9 8 0 := ⟨_, rfl, by decide, by decide, TW_of (i := 165) (by decide +kernel) (by decide +kernel)⟩
theorem gf_X5_15 : GF "TeaHouse$Orders" 15 8 1 := ⟨_, rfl, by decide, by decide, TW_of (i := 167) (by decide +kernel) (by decide +kernel)⟩
theorem gf_X5_18 : GF "TeaHouse$Orders" 18 8 2 := ⟨_, rfl, by decide, by decide, TW_of (i := 168) (by decide +kernel) (by decide +kernel)⟩
theorem gf_X5_21 : GF "TeaHouse$Orders" 21 8 3 := ⟨_, rfl, by decide, by decide, TW_of (i := 171) (by decide +kernel) (by decide +kernel)⟩
theorem gf_X5_24 : GF "TeaHouse$Orders" 24 8 4 := ⟨_, rfl, by decide, by decide, TW_of (i := 174) (by decide +kernel) (by decide +kernel)⟩
theorem im_X5_numberAt : Cond.instanceMethod m_X5_numberAt.1 ∈ TW := TW_of (i := 784) (by decide +kernel) (by decide +kernel)
theorem sl_X5_numberAt : Cond.selects "TeaHouse$Orders" m_X5_numberAt.1 m_X5_numberAt.1 ∈ TW := TW_of (i := 785) (by decide +kernel) (by decide +kernel)
theorem lb_X5_numberAt : ∀ (own : String) (idx : Nat), LkB own idx m_X5_numberAt 1 := fun _ _ => ⟨iw_X5, TW_of (i := 786) (by decide +kernel) (by decide +kernel), ⟨by decide +kernel, by decide +kernel⟩, by decide +kernel, by decide⟩
theorem lk_X5_38 : LkV "TeaHouse$Orders" 38 "TeaHouse$Orders" m_X5_numberAt 1 := ⟨TW_of (i := 783) (by decide +kernel) (by decide +kernel), im_X5_numberAt, sl_X5_numberAt, lb_X5_numberAt _ _⟩
theorem lk_X5_42 : LkV "TeaHouse$Orders" 42 "TeaHouse$Orders" m_X5_find 1 := ⟨TW_of (i := 787) (by decide +kernel) (by decide +kernel), im_X5_find, sl_X5_find, lb_X5_find _ _⟩
theorem lk_X5_45 : LkV "TeaHouse$Orders" 45 "java/lang/StringBuilder" m_J4_append_cf468 1 := ⟨TW_of (i := 1484) (by decide +kernel) (by decide +kernel), im_J4_append_cf468, sl_J4_append_cf468, lb_J4_append_cf468 _ _⟩
theorem lk_X5_51 : LkV "TeaHouse$Orders" 51 "java/lang/StringBuilder" m_J4_append_bf812 1 := ⟨TW_of (i := 1485) (by decide +kernel) (by decide +kernel), im_J4_append_bf812, sl_J4_append_bf812, lb_J4_append_bf812 _ _⟩
theorem lk_X5_56 : LkV "TeaHouse$Orders" 56 "java/lang/StringBuilder" m_J4_append_15ec4 1 := ⟨TW_of (i := 1487) (by decide +kernel) (by decide +kernel), im_J4_append_15ec4, sl_J4_append_15ec4, lb_J4_append_15ec4 _ _⟩
theorem oi_X8_3 : Cond.methodLink "TeaHouse" 3 Lib.objectInit ∈ TW := TW_of (i := 113) (by decide +kernel) (by decide +kernel)
theorem nw_X8_9 : NW "TeaHouse" 9 4 14 := ⟨_, rfl, by decide, rfl, TW_of (i := 116) (by decide +kernel) (by decide +kernel), TW_of (i := 117) (by decide +kernel) (by decide +kernel), TW_of (i := 75) (by decide +kernel) (by decide +kernel), nw_def 4 14 (by decide +kernel)⟩
theorem im_X1_init : Cond.instanceMethod m_X1_init.1 ∈ TW := TW_of (i := 119) (by decide +kernel) (by decide +kernel)
theorem lb_X1_init : ∀ (own : String) (idx : Nat), LkB own idx m_X1_init 0 := fun _ _ => ⟨iw_X1, TW_of (i := 120) (by decide +kernel) (by decide +kernel), ⟨by decide +kernel, by decide +kernel⟩, by decide +kernel, by decide⟩
theorem lk_X8_11 : LkN "TeaHouse" 11 m_X1_init "TeaHouse" 0 := ⟨TW_of (i := 118) (by decide +kernel) (by decide +kernel), im_X1_init, rfl, rfl, lb_X1_init _ _⟩
theorem ff_X8_12 : FF "TeaHouse" 12 9 0 (.object "TeaHouse$House") := ⟨_, rfl, by decide, by decide, TW_of (i := 345) (by decide +kernel) (by decide +kernel), rfl, by decide +kernel, rfl⟩
theorem ff_X8_16 : FF "TeaHouse" 16 9 1 (.object "TeaHouse$House") := ⟨_, rfl, by decide, by decide, TW_of (i := 346) (by decide +kernel) (by decide +kernel), rfl, by decide +kernel, rfl⟩
theorem ff_X8_19 : FF "TeaHouse" 19 9 2 (.object "TeaHouse$House") := ⟨_, rfl, by decide, by decide, TW_of (i := 347) (by decide +kernel) (by decide +kernel), rfl, by decide +kernel, rfl⟩
theorem ff_X8_22 : FF "TeaHouse" 22 9 3 (.array (.object "TeaHouse$House")) := ⟨_, rfl, by decide, by decide, TW_of (i := 348) (by decide +kernel) (by decide +kernel), rfl, by decide +kernel, rfl⟩
theorem nw_X8_26 : NW "TeaHouse" 26 6 6 := ⟨_, rfl, by decide, rfl, TW_of (i := 280) (by decide +kernel) (by decide +kernel), TW_of (i := 123) (by decide +kernel) (by decide +kernel), TW_of (i := 76) (by decide +kernel) (by decide +kernel), nw_def 6 6 (by decide +kernel)⟩
theorem lk_X8_28 : LkN "TeaHouse" 28 m_X3_init "TeaHouse" 0 := ⟨TW_of (i := 281) (by decide +kernel) (by decide +kernel), im_X3_init, rfl, rfl, lb_X3_init _ _⟩
theorem ff_X8_29 : FF "TeaHouse" 29 9 4 (.object "TeaHouse$Kettles") := ⟨_, rfl, by decide, by decide, TW_of (i := 349) (by decide +kernel) (by decide +kernel), rfl, by decide +kernel, rfl⟩
theorem nw_X8_33 : NW "TeaHouse" 33 5 6 := ⟨_, rfl, by decide, rfl, TW_of (i := 282) (by decide +kernel) (by decide +kernel), TW_of (i := 283) (by decide +kernel) (by decide +kernel), TW_of (i := 79) (by decide +kernel) (by decide +kernel), nw_def 5 6 (by decide +kernel)⟩
theorem im_X2_init : Cond.instanceMethod m_X2_init.1 ∈ TW := TW_of (i := 285) (by decide +kernel) (by decide +kernel)
theorem lb_X2_init : ∀ (own : String) (idx : Nat), LkB own idx m_X2_init 0 := fun _ _ => ⟨iw_X2, TW_of (i := 286) (by decide +kernel) (by decide +kernel), ⟨by decide +kernel, by decide +kernel⟩, by decide +kernel, by decide⟩
theorem lk_X8_35 : LkN "TeaHouse" 35 m_X2_init "TeaHouse" 0 := ⟨TW_of (i := 284) (by decide +kernel) (by decide +kernel), im_X2_init, rfl, rfl, lb_X2_init _ _⟩
theorem ff_X8_36 : FF "TeaHouse" 36 9 5 (.object "TeaHouse$Input") := ⟨_, rfl, by decide, by decide, TW_of (i := 350) (by decide +kernel) (by decide +kernel), rfl, by decide +kernel, rfl⟩
theorem nw_X8_40 : NW "TeaHouse" 40 1 4 := ⟨_, rfl, by decide, rfl, TW_of (i := 312) (by decide +kernel) (by decide +kernel), TW_of (i := 313) (by decide +kernel) (by decide +kernel), TW_of (i := 81) (by decide +kernel) (by decide +kernel), nw_def 1 4 (by decide +kernel)⟩
theorem im_J4_init_da8c8 : Cond.instanceMethod m_J4_init_da8c8.1 ∈ TW := TW_of (i := 315) (by decide +kernel) (by decide +kernel)
theorem lb_J4_init_da8c8 : ∀ (own : String) (idx : Nat), LkB own idx m_J4_init_da8c8 0 := fun _ _ => ⟨iw_J4, TW_of (i := 316) (by decide +kernel) (by decide +kernel), ⟨by decide +kernel, by decide +kernel⟩, by decide +kernel, by decide⟩
theorem lk_X8_42 : LkI "TeaHouse" 42 m_J4_init_da8c8 0 := ⟨TW_of (i := 314) (by decide +kernel) (by decide +kernel), im_J4_init_da8c8, rfl, rfl, lb_J4_init_da8c8 _ _⟩
theorem ff_X8_43 : FF "TeaHouse" 43 9 6 (.object "java/lang/StringBuilder") := ⟨_, rfl, by decide, by decide, TW_of (i := 351) (by decide +kernel) (by decide +kernel), rfl, by decide +kernel, rfl⟩
theorem pf_X8_47 : PF "TeaHouse" 47 9 7 .boolean := ⟨_, rfl, by decide, by decide, TW_of (i := 352) (by decide +kernel) (by decide +kernel), rfl, by decide +kernel⟩
theorem pf_X8_51 : PF "TeaHouse" 51 9 8 .int := ⟨_, rfl, by decide, by decide, TW_of (i := 353) (by decide +kernel) (by decide +kernel), rfl, by decide +kernel⟩
theorem pf_X8_55 : PF "TeaHouse" 55 9 9 .int := ⟨_, rfl, by decide, by decide, TW_of (i := 354) (by decide +kernel) (by decide +kernel), rfl, by decide +kernel⟩
theorem pf_X8_58 : PF "TeaHouse" 58 9 10 .int := ⟨_, rfl, by decide, by decide, TW_of (i := 355) (by decide +kernel) (by decide +kernel), rfl, by decide +kernel⟩
theorem pf_X8_61 : PF "TeaHouse" 61 9 11 .int := ⟨_, rfl, by decide, by decide, TW_of (i := 356) (by decide +kernel) (by decide +kernel), rfl, by decide +kernel⟩
theorem gf_X8_22 : GF "TeaHouse" 22 9 3 := ⟨_, rfl, by decide, by decide, TW_of (i := 348) (by decide +kernel) (by decide +kernel)⟩
theorem gs_X8_64 : Cond.fieldLink "TeaHouse" 64 "TeaHouse$Verb" "KETTLE" "LTeaHouse$Verb;" ∈ TW := TW_of (i := 1155) (by decide +kernel) (by decide +kernel)
theorem im_X8_change : Cond.instanceMethod m_X8_change.1 ∈ TW := TW_of (i := 390) (by decide +kernel) (by decide +kernel)
theorem sl_X8_change : Cond.selects "TeaHouse" m_X8_change.1 m_X8_change.1 ∈ TW := TW_of (i := 0) (by decide +kernel) (by decide +kernel)
theorem lb_X8_change : ∀ (own : String) (idx : Nat), LkB own idx m_X8_change 5 := fun _ _ => ⟨iw_X8, TW_of (i := 391) (by decide +kernel) (by decide +kernel), ⟨by decide +kernel, by decide +kernel⟩, by decide +kernel, by decide⟩
theorem lk_X8_70 : LkV "TeaHouse" 70 "TeaHouse" m_X8_change 5 := ⟨TW_of (i := 388) (by decide +kernel) (by decide +kernel), im_X8_change, sl_X8_change, lb_X8_change _ _⟩
theorem gs_X8_74 : Cond.fieldLink "TeaHouse" 74 "TeaHouse$Verb" "FILL" "LTeaHouse$Verb;" ∈ TW := TW_of (i := 1167) (by decide +kernel) (by decide +kernel)
theorem sm_X8_halves : Cond.static m_X8_halves.1 ∈ TW := TW_of (i := 819) (by decide +kernel) (by decide +kernel)
theorem lb_X8_halves : ∀ (own : String) (idx : Nat), LkB own idx m_X8_halves 1 := fun _ _ => ⟨iw_X8, TW_of (i := 820) (by decide +kernel) (by decide +kernel), ⟨by decide +kernel, by decide +kernel⟩, by decide +kernel, by decide⟩
theorem lk_X8_77 : LkS "TeaHouse" 77 m_X8_halves 1 := ⟨TW_of (i := 818) (by decide +kernel) (by decide +kernel), sm_X8_halves, lb_X8_halves _ _⟩
theorem gs_X8_81 : Cond.fieldLink "TeaHouse" 81 "TeaHouse$Verb" "BURNER" "LTeaHouse$Verb;" ∈ TW := TW_of (i := 1176) (by decide +kernel) (by decide +kernel)
theorem gs_X8_84 : Cond.fieldLink "TeaHouse" 84 "TeaHouse$Verb" "ORDER" "LTeaHouse$Verb;" ∈ TW := TW_of (i := 1185) (by decide +kernel) (by decide +kernel)
theorem gs_X8_87 : Cond.fieldLink "TeaHouse" 87 "TeaHouse$Verb" "CANCEL" "LTeaHouse$Verb;" ∈ TW := TW_of (i := 1195) (by decide +kernel) (by decide +kernel)
theorem gs_X8_90 : Cond.fieldLink "TeaHouse" 90 "TeaHouse$Verb" "SERVE" "LTeaHouse$Verb;" ∈ TW := TW_of (i := 685) (by decide +kernel) (by decide +kernel)
theorem gs_X8_93 : Cond.fieldLink "TeaHouse" 93 "TeaHouse$Verb" "WASH" "LTeaHouse$Verb;" ∈ TW := TW_of (i := 1211) (by decide +kernel) (by decide +kernel)
theorem gs_X8_96 : Cond.fieldLink "TeaHouse" 96 "TeaHouse$Verb" "STEAM" "LTeaHouse$Verb;" ∈ TW := TW_of (i := 1220) (by decide +kernel) (by decide +kernel)
theorem sm_X8_eighths : Cond.static m_X8_eighths.1 ∈ TW := TW_of (i := 697) (by decide +kernel) (by decide +kernel)
theorem lb_X8_eighths : ∀ (own : String) (idx : Nat), LkB own idx m_X8_eighths 1 := fun _ _ => ⟨iw_X8, TW_of (i := 698) (by decide +kernel) (by decide +kernel), ⟨by decide +kernel, by decide +kernel⟩, by decide +kernel, by decide⟩
theorem lk_X8_99 : LkS "TeaHouse" 99 m_X8_eighths 1 := ⟨TW_of (i := 696) (by decide +kernel) (by decide +kernel), sm_X8_eighths, lb_X8_eighths _ _⟩
theorem gs_X8_102 : Cond.fieldLink "TeaHouse" 102 "TeaHouse$Verb" "CUP" "LTeaHouse$Verb;" ∈ TW := TW_of (i := 1229) (by decide +kernel) (by decide +kernel)
theorem gs_X8_105 : Cond.fieldLink "TeaHouse" 105 "TeaHouse$Verb" "LITRE" "LTeaHouse$Verb;" ∈ TW := TW_of (i := 1238) (by decide +kernel) (by decide +kernel)
theorem gs_X8_108 : Cond.fieldLink "TeaHouse" 108 "TeaHouse$Verb" "ATTEND" "LTeaHouse$Verb;" ∈ TW := TW_of (i := 386) (by decide +kernel) (by decide +kernel)
theorem gs_X8_111 : Cond.fieldLink "TeaHouse" 111 "TeaHouse$Verb" "MINUTES" "LTeaHouse$Verb;" ∈ TW := TW_of (i := 1247) (by decide +kernel) (by decide +kernel)
theorem gs_X8_114 : Cond.fieldLink "TeaHouse" 114 "TeaHouse$Verb" "CLOSE" "LTeaHouse$Verb;" ∈ TW := TW_of (i := 1256) (by decide +kernel) (by decide +kernel)
theorem gf_X8_12 : GF "TeaHouse" 12 9 0 := ⟨_, rfl, by decide, by decide, TW_of (i := 345) (by decide +kernel) (by decide +kernel)⟩
theorem gf_X8_117 : GF "TeaHouse" 117 4 0 := ⟨_, rfl, by decide, by decide, TW_of (i := 224) (by decide +kernel) (by decide +kernel)⟩
theorem gf_X8_120 : GF "TeaHouse" 120 6 5 := ⟨_, rfl, by decide, by decide, TW_of (i := 143) (by decide +kernel) (by decide +kernel)⟩
theorem im_X8_requireKettle : Cond.instanceMethod m_X8_requireKettle.1 ∈ TW := TW_of (i := 1267) (by decide +kernel) (by decide +kernel)
theorem sl_X8_requireKettle : Cond.selects "TeaHouse" m_X8_requireKettle.1 m_X8_requireKettle.1 ∈ TW := TW_of (i := 20) (by decide +kernel) (by decide +kernel)
theorem lb_X8_requireKettle : ∀ (own : String) (idx : Nat), LkB own idx m_X8_requireKettle 1 := fun _ _ => ⟨iw_X8, TW_of (i := 1268) (by decide +kernel) (by decide +kernel), ⟨by decide +kernel, by decide +kernel⟩, by decide +kernel, by decide⟩
theorem lk_X8_123 : LkV "TeaHouse" 123 "TeaHouse" m_X8_requireKettle 1 := ⟨TW_of (i := 1265) (by decide +kernel) (by decide +kernel), im_X8_requireKettle, sl_X8_requireKettle, lb_X8_requireKettle _ _⟩
theorem gf_X8_127 : GF "TeaHouse" 127 6 0 := ⟨_, rfl, by decide, by decide, TW_of (i := 130) (by decide +kernel) (by decide +kernel)⟩
theorem gf_X8_131 : GF "TeaHouse" 131 6 1 := ⟨_, rfl, by decide, by decide, TW_of (i := 133) (by decide +kernel) (by decide +kernel)⟩
theorem gf_X8_134 : GF "TeaHouse" 134 6 2 := ⟨_, rfl, by decide, by decide, TW_of (i := 135) (by decide +kernel) (by decide +kernel)⟩
theorem sm_X8_bitsOfHalves : Cond.static m_X8_bitsOfHalves.1 ∈ TW := TW_of (i := 810) (by decide +kernel) (by decide +kernel)
theorem lb_X8_bitsOfHalves : ∀ (own : String) (idx : Nat), LkB own idx m_X8_bitsOfHalves 1 := fun _ _ => ⟨iw_X8, TW_of (i := 811) (by decide +kernel) (by decide +kernel), ⟨by decide +kernel, by decide +kernel⟩, by decide +kernel, by decide⟩
theorem lk_X8_137 : LkS "TeaHouse" 137 m_X8_bitsOfHalves 1 := ⟨TW_of (i := 809) (by decide +kernel) (by decide +kernel), sm_X8_bitsOfHalves, lb_X8_bitsOfHalves _ _⟩
theorem gf_X8_141 : GF "TeaHouse" 141 6 3 := ⟨_, rfl, by decide, by decide, TW_of (i := 137) (by decide +kernel) (by decide +kernel)⟩
theorem gf_X8_144 : GF "TeaHouse" 144 6 4 := ⟨_, rfl, by decide, by decide, TW_of (i := 140) (by decide +kernel) (by decide +kernel)⟩
theorem im_X3_heatingTime : Cond.instanceMethod m_X3_heatingTime.1 ∈ TW := TW_of (i := 826) (by decide +kernel) (by decide +kernel)
theorem sl_X3_heatingTime : Cond.selects "TeaHouse$Kettles" m_X3_heatingTime.1 m_X3_heatingTime.1 ∈ TW := TW_of (i := 827) (by decide +kernel) (by decide +kernel)
theorem lb_X3_heatingTime : ∀ (own : String) (idx : Nat), LkB own idx m_X3_heatingTime 1 := fun _ _ => ⟨iw_X3, TW_of (i := 828) (by decide +kernel) (by decide +kernel), ⟨by decide +kernel, by decide +kernel⟩, by decide +kernel, by decide⟩
theorem lk_X8_148 : LkV "TeaHouse" 148 "TeaHouse$Kettles" m_X3_heatingTime 1 := ⟨TW_of (i := 825) (by decide +kernel) (by decide +kernel), im_X3_heatingTime, sl_X3_heatingTime, lb_X3_heatingTime _ _⟩
theorem sm_X8_requireFound : Cond.static m_X8_requireFound.1 ∈ TW := TW_of (i := 1313) (by decide +kernel) (by decide +kernel)
theorem lb_X8_requireFound : ∀ (own : String) (idx : Nat), LkB own idx m_X8_requireFound 1 := fun _ _ => ⟨iw_X8, TW_of (i := 1314) (by decide +kernel) (by decide +kernel), ⟨by decide +kernel, by decide +kernel⟩, by decide +kernel, by decide⟩
theorem lk_X8_151 : LkS "TeaHouse" 151 m_X8_requireFound 1 := ⟨TW_of (i := 1312) (by decide +kernel) (by decide +kernel), sm_X8_requireFound, lb_X8_requireFound _ _⟩
theorem im_X8_heatingTimeOnCopy : Cond.instanceMethod m_X8_heatingTimeOnCopy.1 ∈ TW := TW_of (i := 831) (by decide +kernel) (by decide +kernel)
theorem sl_X8_heatingTimeOnCopy : Cond.selects "TeaHouse" m_X8_heatingTimeOnCopy.1 m_X8_heatingTimeOnCopy.1 ∈ TW := TW_of (i := 19) (by decide +kernel) (by decide +kernel)
theorem lb_X8_heatingTimeOnCopy : ∀ (own : String) (idx : Nat), LkB own idx m_X8_heatingTimeOnCopy 1 := fun _ _ => ⟨iw_X8, TW_of (i := 832) (by decide +kernel) (by decide +kernel), ⟨by decide +kernel, by decide +kernel⟩, by decide +kernel, by decide⟩
theorem lk_X8_154 : LkV "TeaHouse" 154 "TeaHouse" m_X8_heatingTimeOnCopy 1 := ⟨TW_of (i := 829) (by decide +kernel) (by decide +kernel), im_X8_heatingTimeOnCopy, sl_X8_heatingTimeOnCopy, lb_X8_heatingTimeOnCopy _ _⟩
theorem lk_X8_157 : LkV "TeaHouse" 157 "TeaHouse$Kettles" m_X3_ranked 1 := ⟨TW_of (i := 1330) (by decide +kernel) (by decide +kernel), im_X3_ranked, sl_X3_ranked, lb_X3_ranked _ _⟩
theorem gf_X8_160 : GF "TeaHouse" 160 4 1 := ⟨_, rfl, by decide, by decide, TW_of (i := 226) (by decide +kernel) (by decide +kernel)⟩
theorem gf_X8_164 : GF "TeaHouse" 164 8 5 := ⟨_, rfl, by decide, by decide, TW_of (i := 177) (by decide +kernel) (by decide +kernel)⟩
theorem lk_X8_167 : LkV "TeaHouse" 167 "TeaHouse$Orders" m_X5_numberAt 1 := ⟨TW_of (i := 1338) (by decide +kernel) (by decide +kernel), im_X5_numberAt, sl_X5_numberAt, lb_X5_numberAt _ _⟩
theorem lk_X8_170 : LkV "TeaHouse" 170 "TeaHouse$Orders" m_X5_find 1 := ⟨TW_of (i := 1346) (by decide +kernel) (by decide +kernel), im_X5_find, sl_X5_find, lb_X5_find _ _⟩
theorem gf_X8_173 : GF "TeaHouse" 173 8 2 := ⟨_, rfl, by decide, by decide, TW_of (i := 170) (by decide +kernel) (by decide +kernel)⟩
theorem gf_X8_176 : GF "TeaHouse" 176 4 8 := ⟨_, rfl, by decide, by decide, TW_of (i := 240) (by decide +kernel) (by decide +kernel)⟩
theorem gf_X8_179 : GF "TeaHouse" 179 8 3 := ⟨_, rfl, by decide, by decide, TW_of (i := 173) (by decide +kernel) (by decide +kernel)⟩
theorem lk_X8_182 : LkV "TeaHouse" 182 "TeaHouse$Kettles" m_X3_suitable 2 := ⟨TW_of (i := 1368) (by decide +kernel) (by decide +kernel), im_X3_suitable, sl_X3_suitable, lb_X3_suitable _ _⟩
theorem im_X8_waitOnCopy : Cond.instanceMethod m_X8_waitOnCopy.1 ∈ TW := TW_of (i := 1378) (by decide +kernel) (by decide +kernel)
theorem sl_X8_waitOnCopy : Cond.selects "TeaHouse" m_X8_waitOnCopy.1 m_X8_waitOnCopy.1 ∈ TW := TW_of (i := 21) (by decide +kernel) (by decide +kernel)
theorem lb_X8_waitOnCopy : ∀ (own : String) (idx : Nat), LkB own idx m_X8_waitOnCopy 2 := fun _ _ => ⟨iw_X8, TW_of (i := 1379) (by decide +kernel) (by decide +kernel), ⟨by decide +kernel, by decide +kernel⟩, by decide +kernel, by decide⟩
theorem lk_X8_186 : LkV "TeaHouse" 186 "TeaHouse" m_X8_waitOnCopy 2 := ⟨TW_of (i := 1376) (by decide +kernel) (by decide +kernel), im_X8_waitOnCopy, sl_X8_waitOnCopy, lb_X8_waitOnCopy _ _⟩
theorem im_X1_refusal : Cond.instanceMethod m_X1_refusal.1 ∈ TW := TW_of (i := 393) (by decide +kernel) (by decide +kernel)
theorem sl_X1_refusal : Cond.selects "TeaHouse$House" m_X1_refusal.1 m_X1_refusal.1 ∈ TW := TW_of (i := 394) (by decide +kernel) (by decide +kernel)
theorem lb_X1_refusal : ∀ (own : String) (idx : Nat), LkB own idx m_X1_refusal 5 := fun _ _ => ⟨iw_X1, TW_of (i := 395) (by decide +kernel) (by decide +kernel), ⟨by decide +kernel, by decide +kernel⟩, by decide +kernel, by decide⟩
theorem lk_X8_189 : LkV "TeaHouse" 189 "TeaHouse$House" m_X1_refusal 5 := ⟨TW_of (i := 392) (by decide +kernel) (by decide +kernel), im_X1_refusal, sl_X1_refusal, lb_X1_refusal _ _⟩
theorem gs_X8_193 : Cond.fieldLink "TeaHouse" 193 "TeaHouse$Refusal" "NOTHING" "LTeaHouse$Refusal;" ∈ TW := TW_of (i := 687) (by decide +kernel) (by decide +kernel)
theorem gf_X8_199 : GF "TeaHouse" 199 4 3 := ⟨_, rfl, by decide, by decide, TW_of (i := 230) (by decide +kernel) (by decide +kernel)⟩
theorem gf_X8_202 : GF "TeaHouse" 202 4 4 := ⟨_, rfl, by decide, by decide, TW_of (i := 232) (by decide +kernel) (by decide +kernel)⟩
theorem gf_X8_205 : GF "TeaHouse" 205 4 5 := ⟨_, rfl, by decide, by decide, TW_of (i := 234) (by decide +kernel) (by decide +kernel)⟩
theorem gf_X8_207 : GF "TeaHouse" 207 4 6 := ⟨_, rfl, by decide, by decide, TW_of (i := 236) (by decide +kernel) (by decide +kernel)⟩
theorem gf_X8_210 : GF "TeaHouse" 210 4 7 := ⟨_, rfl, by decide, by decide, TW_of (i := 238) (by decide +kernel) (by decide +kernel)⟩
theorem gf_X8_213 : GF "TeaHouse" 213 4 9 := ⟨_, rfl, by decide, by decide, TW_of (i := 242) (by decide +kernel) (by decide +kernel)⟩
theorem gf_X8_216 : GF "TeaHouse" 216 4 2 := ⟨_, rfl, by decide, by decide, TW_of (i := 228) (by decide +kernel) (by decide +kernel)⟩
theorem gf_X8_220 : GF "TeaHouse" 220 7 3 := ⟨_, rfl, by decide, by decide, TW_of (i := 207) (by decide +kernel) (by decide +kernel)⟩
theorem gf_X8_225 : GF "TeaHouse" 225 7 2 := ⟨_, rfl, by decide, by decide, TW_of (i := 205) (by decide +kernel) (by decide +kernel)⟩
theorem gf_X8_233 : GF "TeaHouse" 233 7 0 := ⟨_, rfl, by decide, by decide, TW_of (i := 201) (by decide +kernel) (by decide +kernel)⟩
theorem im_X4_ranked : Cond.instanceMethod m_X4_ranked.1 ∈ TW := TW_of (i := 1396) (by decide +kernel) (by decide +kernel)
theorem sl_X4_ranked : Cond.selects "TeaHouse$Ledger" m_X4_ranked.1 m_X4_ranked.1 ∈ TW := TW_of (i := 1397) (by decide +kernel) (by decide +kernel)
theorem lb_X4_ranked : ∀ (own : String) (idx : Nat), LkB own idx m_X4_ranked 1 := fun _ _ => ⟨iw_X4, TW_of (i := 1398) (by decide +kernel) (by decide +kernel), ⟨by decide +kernel, by decide +kernel⟩, by decide +kernel, by decide⟩
theorem lk_X8_236 : LkV "TeaHouse" 236 "TeaHouse$Ledger" m_X4_ranked 1 := ⟨TW_of (i := 1395) (by decide +kernel) (by decide +kernel), im_X4_ranked, sl_X4_ranked, lb_X4_ranked _ _⟩
theorem im_X8_requireNights : Cond.instanceMethod m_X8_requireNights.1 ∈ TW := TW_of (i := 1412) (by decide +kernel) (by decide +kernel)
theorem sl_X8_requireNights : Cond.selects "TeaHouse" m_X8_requireNights.1 m_X8_requireNights.1 ∈ TW := TW_of (i := 23) (by decide +kernel) (by decide +kernel)
theorem lb_X8_requireNights : ∀ (own : String) (idx : Nat), LkB own idx m_X8_requireNights 1 := fun _ _ => ⟨iw_X8, TW_of (i := 1413) (by decide +kernel) (by decide +kernel), ⟨by decide +kernel, by decide +kernel⟩, by decide +kernel, by decide⟩
theorem lk_X8_237 : LkV "TeaHouse" 237 "TeaHouse" m_X8_requireNights 1 := ⟨TW_of (i := 1410) (by decide +kernel) (by decide +kernel), im_X8_requireNights, sl_X8_requireNights, lb_X8_requireNights _ _⟩
theorem lk_X8_240 : LkV "TeaHouse" 240 "TeaHouse$Ledger" m_X4_greatestByAdding 1 := ⟨TW_of (i := 1417) (by decide +kernel) (by decide +kernel), im_X4_greatestByAdding, sl_X4_greatestByAdding, lb_X4_greatestByAdding _ _⟩
theorem lk_X8_243 : LkV "TeaHouse" 243 "TeaHouse$Ledger" m_X4_greatestByDifferences 1 := ⟨TW_of (i := 1425) (by decide +kernel) (by decide +kernel), im_X4_greatestByDifferences, sl_X4_greatestByDifferences, lb_X4_greatestByDifferences _ _⟩
theorem lk_X8_246 : LkV "TeaHouse" 246 "TeaHouse$Ledger" m_X4_totalOfNights 0 := ⟨TW_of (i := 732) (by decide +kernel) (by decide +kernel), im_X4_totalOfNights, sl_X4_totalOfNights, lb_X4_totalOfNights _ _⟩
theorem lk_X8_250 : LkV "TeaHouse" 250 "TeaHouse$Ledger" m_X4_totalOfSales 0 := ⟨TW_of (i := 740) (by decide +kernel) (by decide +kernel), im_X4_totalOfSales, sl_X4_totalOfSales, lb_X4_totalOfSales _ _⟩
theorem gf_X8_253 : GF "TeaHouse" 253 4 11 := ⟨_, rfl, by decide, by decide, TW_of (i := 245) (by decide +kernel) (by decide +kernel)⟩
theorem gf_X8_256 : GF "TeaHouse" 256 4 12 := ⟨_, rfl, by decide, by decide, TW_of (i := 247) (by decide +kernel) (by decide +kernel)⟩
theorem gf_X8_259 : GF "TeaHouse" 259 4 13 := ⟨_, rfl, by decide, by decide, TW_of (i := 249) (by decide +kernel) (by decide +kernel)⟩
theorem im_X3_totalVolume : Cond.instanceMethod m_X3_totalVolume.1 ∈ TW := TW_of (i := 761) (by decide +kernel) (by decide +kernel)
theorem sl_X3_totalVolume : Cond.selects "TeaHouse$Kettles" m_X3_totalVolume.1 m_X3_totalVolume.1 ∈ TW := TW_of (i := 762) (by decide +kernel) (by decide +kernel)
theorem lb_X3_totalVolume : ∀ (own : String) (idx : Nat), LkB own idx m_X3_totalVolume 0 := fun _ _ => ⟨iw_X3, TW_of (i := 763) (by decide +kernel) (by decide +kernel), ⟨by decide +kernel, by decide +kernel⟩, by decide +kernel, by decide⟩
theorem lk_X8_269 : LkV "TeaHouse" 269 "TeaHouse$Kettles" m_X3_totalVolume 0 := ⟨TW_of (i := 760) (by decide +kernel) (by decide +kernel), im_X3_totalVolume, sl_X3_totalVolume, lb_X3_totalVolume _ _⟩
theorem im_X4_isConsistent : Cond.instanceMethod m_X4_isConsistent.1 ∈ TW := TW_of (i := 765) (by decide +kernel) (by decide +kernel)
theorem sl_X4_isConsistent : Cond.selects "TeaHouse$Ledger" m_X4_isConsistent.1 m_X4_isConsistent.1 ∈ TW := TW_of (i := 766) (by decide +kernel) (by decide +kernel)
theorem lb_X4_isConsistent : ∀ (own : String) (idx : Nat), LkB own idx m_X4_isConsistent 0 := fun _ _ => ⟨iw_X4, TW_of (i := 767) (by decide +kernel) (by decide +kernel), ⟨by decide +kernel, by decide +kernel⟩, by decide +kernel, by decide⟩
theorem lk_X8_272 : LkV "TeaHouse" 272 "TeaHouse$Ledger" m_X4_isConsistent 0 := ⟨TW_of (i := 764) (by decide +kernel) (by decide +kernel), im_X4_isConsistent, sl_X4_isConsistent, lb_X4_isConsistent _ _⟩
theorem im_X5_isConsistent : Cond.instanceMethod m_X5_isConsistent.1 ∈ TW := TW_of (i := 780) (by decide +kernel) (by decide +kernel)
theorem sl_X5_isConsistent : Cond.selects "TeaHouse$Orders" m_X5_isConsistent.1 m_X5_isConsistent.1 ∈ TW := TW_of (i := 781) (by decide +kernel) (by decide +kernel)
theorem lb_X5_isConsistent : ∀ (own : String) (idx : Nat), LkB own idx m_X5_isConsistent 0 := fun _ _ => ⟨iw_X5, TW_of (i := 782) (by decide +kernel) (by decide +kernel), ⟨by decide +kernel, by decide +kernel⟩, by decide +kernel, by decide⟩
theorem lk_X8_276 : LkV "TeaHouse" 276 "TeaHouse$Orders" m_X5_isConsistent 0 := ⟨TW_of (i := 779) (by decide +kernel) (by decide +kernel), im_X5_isConsistent, sl_X5_isConsistent, lb_X5_isConsistent _ _⟩
theorem im_X3_isRankedOnceEach : Cond.instanceMethod m_X3_isRankedOnceEach.1 ∈ TW := TW_of (i := 789) (by decide +kernel) (by decide +kernel)
theorem sl_X3_isRankedOnceEach : Cond.selects "TeaHouse$Kettles" m_X3_isRankedOnceEach.1 m_X3_isRankedOnceEach.1 ∈ TW := TW_of (i := 790) (by decide +kernel) (by decide +kernel)
theorem lb_X3_isRankedOnceEach : ∀ (own : String) (idx : Nat), LkB own idx m_X3_isRankedOnceEach 0 := fun _ _ => ⟨iw_X3, TW_of (i := 791) (by decide +kernel) (by decide +kernel), ⟨by decide +kernel, by decide +kernel⟩, by decide +kernel, by decide⟩
theorem lk_X8_277 : LkV "TeaHouse" 277 "TeaHouse$Kettles" m_X3_isRankedOnceEach 0 := ⟨TW_of (i := 788) (by decide +kernel) (by decide +kernel), im_X3_isRankedOnceEach, sl_X3_isRankedOnceEach, lb_X3_isRankedOnceEach _ _⟩
theorem im_X8_allTemperatureBitsFit : Cond.instanceMethod m_X8_allTemperatureBitsFit.1 ∈ TW := TW_of (i := 807) (by decide +kernel) (by decide +kernel)
theorem sl_X8_allTemperatureBitsFit : Cond.selects "TeaHouse" m_X8_allTemperatureBitsFit.1 m_X8_allTemperatureBitsFit.1 ∈ TW := TW_of (i := 17) (by decide +kernel) (by decide +kernel)
theorem lb_X8_allTemperatureBitsFit : ∀ (own : String) (idx : Nat), LkB own idx m_X8_allTemperatureBitsFit 0 := fun _ _ => ⟨iw_X8, TW_of (i := 808) (by decide +kernel) (by decide +kernel), ⟨by decide +kernel, by decide +kernel⟩, by decide +kernel, by decide⟩
theorem lk_X8_280 : LkV "TeaHouse" 280 "TeaHouse" m_X8_allTemperatureBitsFit 0 := ⟨TW_of (i := 805) (by decide +kernel) (by decide +kernel), im_X8_allTemperatureBitsFit, sl_X8_allTemperatureBitsFit, lb_X8_allTemperatureBitsFit _ _⟩
theorem im_X8_allHeatingTimesAgree : Cond.instanceMethod m_X8_allHeatingTimesAgree.1 ∈ TW := TW_of (i := 823) (by decide +kernel) (by decide +kernel)
theorem sl_X8_allHeatingTimesAgree : Cond.selects "TeaHouse" m_X8_allHeatingTimesAgree.1 m_X8_allHeatingTimesAgree.1 ∈ TW := TW_of (i := 18) (by decide +kernel) (by decide +kernel)
theorem lb_X8_allHeatingTimesAgree : ∀ (own : String) (idx : Nat), LkB own idx m_X8_allHeatingTimesAgree 0 := fun _ _ => ⟨iw_X8, TW_of (i := 824) (by decide +kernel) (by decide +kernel), ⟨by decide +kernel, by decide +kernel⟩, by decide +kernel, by decide⟩
theorem lk_X8_283 : LkV "TeaHouse" 283 "TeaHouse" m_X8_allHeatingTimesAgree 0 := ⟨TW_of (i := 821) (by decide +kernel) (by decide +kernel), im_X8_allHeatingTimesAgree, sl_X8_allHeatingTimesAgree, lb_X8_allHeatingTimesAgree _ _⟩
theorem gf_X8_43 : GF "TeaHouse" 43 9 6 := ⟨_, rfl, by decide, by decide, TW_of (i := 351) (by decide +kernel) (by decide +kernel)⟩
theorem im_J4_setLength_d00df : Cond.instanceMethod m_J4_setLength_d00df.1 ∈ TW := TW_of (i := 840) (by decide +kernel) (by decide +kernel)
theorem sl_J4_setLength_d00df : Cond.selects "java/lang/StringBuilder" m_J4_setLength_d00df.1 m_J4_setLength_d00df.1 ∈ TW := TW_of (i := 841) (by decide +kernel) (by decide +kernel)
theorem lb_J4_setLength_d00df : ∀ (own : String) (idx : Nat), LkB own idx m_J4_setLength_d00df 1 := fun _ _ => ⟨iw_J4, TW_of (i := 842) (by decide +kernel) (by decide +kernel), ⟨by decide +kernel, by decide +kernel⟩, by decide +kernel, by decide⟩
theorem lk_X8_286 : LkV "TeaHouse" 286 "java/lang/StringBuilder" m_J4_setLength_d00df 1 := ⟨TW_of (i := 839) (by decide +kernel) (by decide +kernel), im_J4_setLength_d00df, sl_J4_setLength_d00df, lb_J4_setLength_d00df _ _⟩
theorem im_X3_describe : Cond.instanceMethod m_X3_describe.1 ∈ TW := TW_of (i := 1466) (by decide +kernel) (by decide +kernel)
theorem sl_X3_describe : Cond.selects "TeaHouse$Kettles" m_X3_describe.1 m_X3_describe.1 ∈ TW := TW_of (i := 1467) (by decide +kernel) (by decide +kernel)
theorem lb_X3_describe : ∀ (own : String) (idx : Nat), LkB own idx m_X3_describe 2 := fun _ _ => ⟨iw_X3, TW_of (i := 1468) (by decide +kernel) (by decide +kernel), ⟨by decide +kernel, by decide +kernel⟩, by decide +kernel, by decide⟩
theorem lk_X8_289 : LkV "TeaHouse" 289 "TeaHouse$Kettles" m_X3_describe 2 := ⟨TW_of (i := 1465) (by decide +kernel) (by decide +kernel), im_X3_describe, sl_X3_describe, lb_X3_describe _ _⟩
theorem im_J4_length_8abf5 : Cond.instanceMethod m_J4_length_8abf5.1 ∈ TW := TW_of (i := 1017) (by decide +kernel) (by decide +kernel)
theorem sl_J4_length_8abf5 : Cond.selects "java/lang/StringBuilder" m_J4_length_8abf5.1 m_J4_length_8abf5.1 ∈ TW := TW_of (i := 2132) (by decide +kernel) (by decide +kernel)
theorem lb_J4_length_8abf5 : ∀ (own : String) (idx : Nat), LkB own idx m_J4_length_8abf5 0 := fun _ _ => ⟨iw_J4, TW_of (i := 1018) (by decide +kernel) (by decide +kernel), ⟨by decide +kernel, by decide +kernel⟩, by decide +kernel, by decide⟩
theorem lk_X8_293 : LkV "TeaHouse" 293 "java/lang/StringBuilder" m_J4_length_8abf5 0 := ⟨TW_of (i := 1137) (by decide +kernel) (by decide +kernel), im_J4_length_8abf5, sl_J4_length_8abf5, lb_J4_length_8abf5 _ _⟩
theorem im_X5_describe : Cond.instanceMethod m_X5_describe.1 ∈ TW := TW_of (i := 1481) (by decide +kernel) (by decide +kernel)
theorem sl_X5_describe : Cond.selects "TeaHouse$Orders" m_X5_describe.1 m_X5_describe.1 ∈ TW := TW_of (i := 1482) (by decide +kernel) (by decide +kernel)
theorem lb_X5_describe : ∀ (own : String) (idx : Nat), LkB own idx m_X5_describe 2 := fun _ _ => ⟨iw_X5, TW_of (i := 1483) (by decide +kernel) (by decide +kernel), ⟨by decide +kernel, by decide +kernel⟩, by decide +kernel, by decide⟩
theorem lk_X8_296 : LkV "TeaHouse" 296 "TeaHouse$Orders" m_X5_describe 2 := ⟨TW_of (i := 1480) (by decide +kernel) (by decide +kernel), im_X5_describe, sl_X5_describe, lb_X5_describe _ _⟩
theorem im_X4_describe : Cond.instanceMethod m_X4_describe.1 ∈ TW := TW_of (i := 1111) (by decide +kernel) (by decide +kernel)
theorem sl_X4_describe : Cond.selects "TeaHouse$Ledger" m_X4_describe.1 m_X4_describe.1 ∈ TW := TW_of (i := 1112) (by decide +kernel) (by decide +kernel)
theorem lb_X4_describe : ∀ (own : String) (idx : Nat), LkB own idx m_X4_describe 1 := fun _ _ => ⟨iw_X4, TW_of (i := 1113) (by decide +kernel) (by decide +kernel), ⟨by decide +kernel, by decide +kernel⟩, by decide +kernel, by decide⟩
theorem lk_X8_297 : LkV "TeaHouse" 297 "TeaHouse$Ledger" m_X4_describe 1 := ⟨TW_of (i := 1110) (by decide +kernel) (by decide +kernel), im_X4_describe, sl_X4_describe, lb_X4_describe _ _⟩
theorem im_J4_charAt_5068e : Cond.instanceMethod m_J4_charAt_5068e.1 ∈ TW := TW_of (i := 1498) (by decide +kernel) (by decide +kernel)
theorem sl_J4_charAt_5068e : Cond.selects "java/lang/StringBuilder" m_J4_charAt_5068e.1 m_J4_charAt_5068e.1 ∈ TW := TW_of (i := 1499) (by decide +kernel) (by decide +kernel)
theorem lb_J4_charAt_5068e : ∀ (own : String) (idx : Nat), LkB own idx m_J4_charAt_5068e 1 := fun _ _ => ⟨iw_J4, TW_of (i := 1500) (by decide +kernel) (by decide +kernel), ⟨by decide +kernel, by decide +kernel⟩, by decide +kernel, by decide⟩
theorem lk_X8_302 : LkV "TeaHouse" 302 "java/lang/StringBuilder" m_J4_charAt_5068e 1 := ⟨TW_of (i := 1497) (by decide +kernel) (by decide +kernel), im_J4_charAt_5068e, sl_J4_charAt_5068e, lb_J4_charAt_5068e _ _⟩
theorem gf_X8_36 : GF "TeaHouse" 36 9 5 := ⟨_, rfl, by decide, by decide, TW_of (i := 350) (by decide +kernel) (by decide +kernel)⟩
theorem gf_X8_311 : GF "TeaHouse" 311 5 3 := ⟨_, rfl, by decide, by decide, TW_of (i := 293) (by decide +kernel) (by decide +kernel)⟩
theorem im_X2_add : Cond.instanceMethod m_X2_add.1 ∈ TW := TW_of (i := 1517) (by decide +kernel) (by decide +kernel)
theorem sl_X2_add : Cond.selects "TeaHouse$Input" m_X2_add.1 m_X2_add.1 ∈ TW := TW_of (i := 1518) (by decide +kernel) (by decide +kernel)
theorem lb_X2_add : ∀ (own : String) (idx : Nat), LkB own idx m_X2_add 1 := fun _ _ => ⟨iw_X2, TW_of (i := 1519) (by decide +kernel) (by decide +kernel), ⟨by decide +kernel, by decide +kernel⟩, by decide +kernel, by decide⟩
theorem lk_X8_318 : LkV "TeaHouse" 318 "TeaHouse$Input" m_X2_add 1 := ⟨TW_of (i := 1516) (by decide +kernel) (by decide +kernel), im_X2_add, sl_X2_add, lb_X2_add _ _⟩
theorem im_X2_parse : Cond.instanceMethod m_X2_parse.1 ∈ TW := TW_of (i := 1528) (by decide +kernel) (by decide +kernel)
theorem sl_X2_parse : Cond.selects "TeaHouse$Input" m_X2_parse.1 m_X2_parse.1 ∈ TW := TW_of (i := 1529) (by decide +kernel) (by decide +kernel)
theorem lb_X2_parse : ∀ (own : String) (idx : Nat), LkB own idx m_X2_parse 0 := fun _ _ => ⟨iw_X2, TW_of (i := 1530) (by decide +kernel) (by decide +kernel), ⟨by decide +kernel, by decide +kernel⟩, by decide +kernel, by decide⟩
theorem lk_X8_322 : LkV "TeaHouse" 322 "TeaHouse$Input" m_X2_parse 0 := ⟨TW_of (i := 1527) (by decide +kernel) (by decide +kernel), im_X2_parse, sl_X2_parse, lb_X2_parse _ _⟩
theorem pf_X8_311 : PF "TeaHouse" 311 5 3 .int := ⟨_, rfl, by decide, by decide, TW_of (i := 293) (by decide +kernel) (by decide +kernel), rfl, by decide +kernel⟩
theorem gf_X8_325 : GF "TeaHouse" 325 5 5 := ⟨_, rfl, by decide, by decide, TW_of (i := 297) (by decide +kernel) (by decide +kernel)⟩
theorem im_X8_firstFailureOnTrial : Cond.instanceMethod m_X8_firstFailureOnTrial.1 ∈ TW := TW_of (i := 1573) (by decide +kernel) (by decide +kernel)
theorem sl_X8_firstFailureOnTrial : Cond.selects "TeaHouse" m_X8_firstFailureOnTrial.1 m_X8_firstFailureOnTrial.1 ∈ TW := TW_of (i := 29) (by decide +kernel) (by decide +kernel)
theorem lb_X8_firstFailureOnTrial : ∀ (own : String) (idx : Nat), LkB own idx m_X8_firstFailureOnTrial 0 := fun _ _ => ⟨iw_X8, TW_of (i := 1574) (by decide +kernel) (by decide +kernel), ⟨by decide +kernel, by decide +kernel⟩, by decide +kernel, by decide⟩
theorem lk_X8_330 : LkV "TeaHouse" 330 "TeaHouse" m_X8_firstFailureOnTrial 0 := ⟨TW_of (i := 1571) (by decide +kernel) (by decide +kernel), im_X8_firstFailureOnTrial, sl_X8_firstFailureOnTrial, lb_X8_firstFailureOnTrial _ _⟩
theorem im_X8_remember : Cond.instanceMethod m_X8_remember.1 ∈ TW := TW_of (i := 572) (by decide +kernel) (by decide +kernel)
theorem sl_X8_remember : Cond.selects "TeaHouse" m_X8_remember.1 m_X8_remember.1 ∈ TW := TW_of (i := 5) (by decide +kernel) (by decide +kernel)
theorem lb_X8_remember : ∀ (own : String) (idx : Nat), LkB own idx m_X8_remember 0 := fun _ _ => ⟨iw_X8, TW_of (i := 573) (by decide +kernel) (by decide +kernel), ⟨by decide +kernel, by decide +kernel⟩, by decide +kernel, by decide⟩
theorem lk_X8_335 : LkV "TeaHouse" 335 "TeaHouse" m_X8_remember 0 := ⟨TW_of (i := 570) (by decide +kernel) (by decide +kernel), im_X8_remember, sl_X8_remember, lb_X8_remember _ _⟩
theorem gf_X8_16 : GF "TeaHouse" 16 9 1 := ⟨_, rfl, by decide, by decide, TW_of (i := 346) (by decide +kernel) (by decide +kernel)⟩
theorem im_X1_copyFrom : Cond.instanceMethod m_X1_copyFrom.1 ∈ TW := TW_of (i := 575) (by decide +kernel) (by decide +kernel)
theorem sl_X1_copyFrom : Cond.selects "TeaHouse$House" m_X1_copyFrom.1 m_X1_copyFrom.1 ∈ TW := TW_of (i := 576) (by decide +kernel) (by decide +kernel)
theorem lb_X1_copyFrom : ∀ (own : String) (idx : Nat), LkB own idx m_X1_copyFrom 1 := fun _ _ => ⟨iw_X1, TW_of (i := 577) (by decide +kernel) (by decide +kernel), ⟨by decide +kernel, by decide +kernel⟩, by decide +kernel, by decide⟩
theorem lk_X8_338 : LkV "TeaHouse" 338 "TeaHouse$House" m_X1_copyFrom 1 := ⟨TW_of (i := 574) (by decide +kernel) (by decide +kernel), im_X1_copyFrom, sl_X1_copyFrom, lb_X1_copyFrom _ _⟩
theorem gf_X8_342 : GF "TeaHouse" 342 5 4 := ⟨_, rfl, by decide, by decide, TW_of (i := 295) (by decide +kernel) (by decide +kernel)⟩
theorem gf_X8_58 : GF "TeaHouse" 58 9 10 := ⟨_, rfl, by decide, by decide, TW_of (i := 355) (by decide +kernel) (by decide +kernel)⟩
theorem gf_X8_61 : GF "TeaHouse" 61 9 11 := ⟨_, rfl, by decide, by decide, TW_of (i := 356) (by decide +kernel) (by decide +kernel)⟩
theorem gf_X8_51 : GF "TeaHouse" 51 9 8 := ⟨_, rfl, by decide, by decide, TW_of (i := 353) (by decide +kernel) (by decide +kernel)⟩
theorem gf_X8_55 : GF "TeaHouse" 55 9 9 := ⟨_, rfl, by decide, by decide, TW_of (i := 354) (by decide +kernel) (by decide +kernel)⟩
theorem gf_X8_19 : GF "TeaHouse" 19 9 2 := ⟨_, rfl, by decide, by decide, TW_of (i := 347) (by decide +kernel) (by decide +kernel)⟩
theorem gf_X8_47 : GF "TeaHouse" 47 9 7 := ⟨_, rfl, by decide, by decide, TW_of (i := 352) (by decide +kernel) (by decide +kernel)⟩
theorem sm_X8_requireAllowed : Cond.static m_X8_requireAllowed.1 ∈ TW := TW_of (i := 445) (by decide +kernel) (by decide +kernel)
theorem lb_X8_requireAllowed : ∀ (own : String) (idx : Nat), LkB own idx m_X8_requireAllowed 1 := fun _ _ => ⟨iw_X8, TW_of (i := 446) (by decide +kernel) (by decide +kernel), ⟨by decide +kernel, by decide +kernel⟩, by decide +kernel, by decide⟩
theorem lk_X8_349 : LkS "TeaHouse" 349 m_X8_requireAllowed 1 := ⟨TW_of (i := 444) (by decide +kernel) (by decide +kernel), sm_X8_requireAllowed, lb_X8_requireAllowed _ _⟩
theorem im_X1_perform : Cond.instanceMethod m_X1_perform.1 ∈ TW := TW_of (i := 598) (by decide +kernel) (by decide +kernel)
theorem sl_X1_perform : Cond.selects "TeaHouse$House" m_X1_perform.1 m_X1_perform.1 ∈ TW := TW_of (i := 599) (by decide +kernel) (by decide +kernel)
theorem lb_X1_perform : ∀ (own : String) (idx : Nat), LkB own idx m_X1_perform 5 := fun _ _ => ⟨iw_X1, TW_of (i := 600) (by decide +kernel) (by decide +kernel), ⟨by decide +kernel, by decide +kernel⟩, by decide +kernel, by decide⟩
theorem lk_X8_353 : LkV "TeaHouse" 353 "TeaHouse$House" m_X1_perform 5 := ⟨TW_of (i := 597) (by decide +kernel) (by decide +kernel), im_X1_perform, sl_X1_perform, lb_X1_perform _ _⟩
theorem mm_X8_356 : Cond.methodLink "TeaHouse" 356 Lib.Math.min.name ∈ TW := TW_of (i := 594) (by decide +kernel) (by decide +kernel)
theorem gs_X8_361 : Cond.fieldLink "TeaHouse" 361 "TeaHouse" "VERBS" "[LTeaHouse$Verb;" ∈ TW := TW_of (i := 1575) (by decide +kernel) (by decide +kernel)
theorem gf_X8_365 : GF "TeaHouse" 365 5 1 := ⟨_, rfl, by decide, by decide, TW_of (i := 290) (by decide +kernel) (by decide +kernel)⟩
theorem im_X2_argument : Cond.instanceMethod m_X2_argument.1 ∈ TW := TW_of (i := 1577) (by decide +kernel) (by decide +kernel)
theorem sl_X2_argument : Cond.selects "TeaHouse$Input" m_X2_argument.1 m_X2_argument.1 ∈ TW := TW_of (i := 1578) (by decide +kernel) (by decide +kernel)
theorem lb_X2_argument : ∀ (own : String) (idx : Nat), LkB own idx m_X2_argument 2 := fun _ _ => ⟨iw_X2, TW_of (i := 1579) (by decide +kernel) (by decide +kernel), ⟨by decide +kernel, by decide +kernel⟩, by decide +kernel, by decide⟩
theorem lk_X8_368 : LkV "TeaHouse" 368 "TeaHouse$Input" m_X2_argument 2 := ⟨TW_of (i := 1576) (by decide +kernel) (by decide +kernel), im_X2_argument, sl_X2_argument, lb_X2_argument _ _⟩
theorem gf_X8_29 : GF "TeaHouse" 29 9 4 := ⟨_, rfl, by decide, by decide, TW_of (i := 349) (by decide +kernel) (by decide +kernel)⟩
theorem lk_X8_371 : LkV "TeaHouse" 371 "TeaHouse$Kettles" m_X3_copyFrom 1 := ⟨TW_of (i := 833) (by decide +kernel) (by decide +kernel), im_X3_copyFrom, sl_X3_copyFrom, lb_X3_copyFrom _ _⟩
theorem lk_X8_374 : LkV "TeaHouse" 374 "TeaHouse$Kettles" m_X3_passMinute 1 := ⟨TW_of (i := 834) (by decide +kernel) (by decide +kernel), im_X3_passMinute, sl_X3_passMinute, lb_X3_passMinute _ _⟩
theorem sm_X8_floatOfBits : Cond.static m_X8_floatOfBits.1 ∈ TW := TW_of (i := 813) (by decide +kernel) (by decide +kernel)
theorem lb_X8_floatOfBits : ∀ (own : String) (idx : Nat), LkB own idx m_X8_floatOfBits 1 := fun _ _ => ⟨iw_X8, TW_of (i := 814) (by decide +kernel) (by decide +kernel), ⟨by decide +kernel, by decide +kernel⟩, by decide +kernel, by decide⟩
theorem lk_X8_377 : LkS "TeaHouse" 377 m_X8_floatOfBits 1 := ⟨TW_of (i := 812) (by decide +kernel) (by decide +kernel), sm_X8_floatOfBits, lb_X8_floatOfBits _ _⟩
theorem gs_X8_380 : Cond.fieldLink "TeaHouse" 380 "TeaHouse$Refusal" "NO_SUCH_KETTLE" "LTeaHouse$Refusal;" ∈ TW := TW_of (i := 447) (by decide +kernel) (by decide +kernel)
theorem gs_X8_385 : Cond.fieldLink "TeaHouse" 385 "TeaHouse$Refusal" "OUT_OF_RANGE" "LTeaHouse$Refusal;" ∈ TW := TW_of (i := 519) (by decide +kernel) (by decide +kernel)
theorem gs_X8_390 : Cond.fieldLink "TeaHouse" 390 "TeaHouse$Refusal" "NOT_NOW" "LTeaHouse$Refusal;" ∈ TW := TW_of (i := 536) (by decide +kernel) (by decide +kernel)
theorem gs_X8_395 : Cond.fieldLink "TeaHouse" 395 "TeaHouse$Refusal" "NO_SUCH_ORDER" "LTeaHouse$Refusal;" ∈ TW := TW_of (i := 553) (by decide +kernel) (by decide +kernel)
theorem lk_X8_403 : LkV "TeaHouse" 403 "TeaHouse$Kettles" m_X3_has 1 := ⟨TW_of (i := 1269) (by decide +kernel) (by decide +kernel), im_X3_has, sl_X3_has, lb_X3_has _ _⟩
theorem lk_X8_407 : LkS "TeaHouse" 407 m_X8_isWithin 3 := ⟨TW_of (i := 1414) (by decide +kernel) (by decide +kernel), sm_X8_isWithin, lb_X8_isWithin _ _⟩
theorem kc_X8_417 : Cond.constantFloat "TeaHouse" 417 1040187392 ∈ TW := TW_of (i := 699) (by decide +kernel) (by decide +kernel)
theorem kc_X8_418 : Cond.constantFloat "TeaHouse" 418 1056964608 ∈ TW := TW_of (i := 817) (by decide +kernel) (by decide +kernel)
theorem kc_X8_419 : Cond.constant "TeaHouse" 419 8388607 ∈ TW := TW_of (i := 815) (by decide +kernel) (by decide +kernel)
theorem kc_X8_420 : Cond.constant "TeaHouse" 420 8388608 ∈ TW := TW_of (i := 816) (by decide +kernel) (by decide +kernel)
theorem oi_X9_1 : Cond.methodLink "TeaHouseModel" 1 Lib.objectInit ∈ TW := TW_of (i := 1616) (by decide +kernel) (by decide +kernel)
theorem ff_X9_9 : FF "TeaHouseModel" 9 10 1 (.array .int) := ⟨_, rfl, by decide, by decide, TW_of (i := 1618) (by decide +kernel) (by decide +kernel), rfl, by decide +kernel, rfl⟩
theorem ff_X9_13 : FF "TeaHouseModel" 13 10 5 (.array .char) := ⟨_, rfl, by decide, by decide, TW_of (i := 1622) (by decide +kernel) (by decide +kernel), rfl, by decide +kernel, rfl⟩
theorem ff_X9_17 : FF "TeaHouseModel" 17 10 7 (.array .char) := ⟨_, rfl, by decide, by decide, TW_of (i := 1624) (by decide +kernel) (by decide +kernel), rfl, by decide +kernel, rfl⟩
theorem pf_X9_20 : PF "TeaHouseModel" 20 10 11 .int := ⟨_, rfl, by decide, by decide, TW_of (i := 1628) (by decide +kernel) (by decide +kernel), rfl, by decide +kernel⟩
theorem pf_X9_24 : PF "TeaHouseModel" 24 10 12 .int := ⟨_, rfl, by decide, by decide, TW_of (i := 1629) (by decide +kernel) (by decide +kernel), rfl, by decide +kernel⟩
theorem ff_X9_27 : FF "TeaHouseModel" 27 10 13 (.array .int) := ⟨_, rfl, by decide, by decide, TW_of (i := 1630) (by decide +kernel) (by decide +kernel), rfl, by decide +kernel, rfl⟩
theorem gf_X9_9 : GF "TeaHouseModel" 9 10 1 := ⟨_, rfl, by decide, by decide, TW_of (i := 1618) (by decide +kernel) (by decide +kernel)⟩
theorem gf_X9_30 : GF "TeaHouseModel" 30 10 0 := ⟨_, rfl, by decide, by decide, TW_of (i := 1617) (by decide +kernel) (by decide +kernel)⟩
theorem im_X9_copies : Cond.instanceMethod m_X9_copies.1 ∈ TW := TW_of (i := 1677) (by decide +kernel) (by decide +kernel)
theorem sl_X9_copies : Cond.selects "TeaHouseModel" m_X9_copies.1 m_X9_copies.1 ∈ TW := TW_of (i := 31) (by decide +kernel) (by decide +kernel)
theorem iw_X9 : Cond.initialized "TeaHouseModel" ∈ TW := TW_of (i := 84) (by decide +kernel) (by decide +kernel)
theorem lb_X9_copies : ∀ (own : String) (idx : Nat), LkB own idx m_X9_copies 2 := fun _ _ => ⟨iw_X9, TW_of (i := 1678) (by decide +kernel) (by decide +kernel), ⟨by decide +kernel, by decide +kernel⟩, by decide +kernel, by decide⟩
theorem lk_X9_33 : LkV "TeaHouseModel" 33 "TeaHouseModel" m_X9_copies 2 := ⟨TW_of (i := 1675) (by decide +kernel) (by decide +kernel), im_X9_copies, sl_X9_copies, lb_X9_copies _ _⟩
theorem pf_X9_30 : PF "TeaHouseModel" 30 10 0 .int := ⟨_, rfl, by decide, by decide, TW_of (i := 1617) (by decide +kernel) (by decide +kernel), rfl, by decide +kernel⟩
theorem gf_X9_37 : GF "TeaHouseModel" 37 10 2 := ⟨_, rfl, by decide, by decide, TW_of (i := 1619) (by decide +kernel) (by decide +kernel)⟩
theorem pf_X9_37 : PF "TeaHouseModel" 37 10 2 .int := ⟨_, rfl, by decide, by decide, TW_of (i := 1619) (by decide +kernel) (by decide +kernel), rfl, by decide +kernel⟩
theorem gf_X9_40 : GF "TeaHouseModel" 40 10 4 := ⟨_, rfl, by decide, by decide, TW_of (i := 1621) (by decide +kernel) (by decide +kernel)⟩
theorem kc_X9_43 : Cond.constantFloat "TeaHouseModel" 43 1090519040 ∈ TW := TW_of (i := 1800) (by decide +kernel) (by decide +kernel)
theorem sm_X9_in : Cond.static m_X9_in.1 ∈ TW := TW_of (i := 1684) (by decide +kernel) (by decide +kernel)
theorem lb_X9_in : ∀ (own : String) (idx : Nat), LkB own idx m_X9_in 3 := fun _ _ => ⟨iw_X9, TW_of (i := 1685) (by decide +kernel) (by decide +kernel), ⟨by decide +kernel, by decide +kernel⟩, by decide +kernel, by decide⟩
theorem lk_X9_44 : LkS "TeaHouseModel" 44 m_X9_in 3 := ⟨TW_of (i := 1683) (by decide +kernel) (by decide +kernel), sm_X9_in, lb_X9_in _ _⟩
theorem im_X9_o : Cond.instanceMethod m_X9_o.1 ∈ TW := TW_of (i := 1743) (by decide +kernel) (by decide +kernel)
theorem sl_X9_o : Cond.selects "TeaHouseModel" m_X9_o.1 m_X9_o.1 ∈ TW := TW_of (i := 42) (by decide +kernel) (by decide +kernel)
theorem lb_X9_o : ∀ (own : String) (idx : Nat), LkB own idx m_X9_o 2 := fun _ _ => ⟨iw_X9, TW_of (i := 1744) (by decide +kernel) (by decide +kernel), ⟨by decide +kernel, by decide +kernel⟩, by decide +kernel, by decide⟩
theorem lk_X9_48 : LkV "TeaHouseModel" 48 "TeaHouseModel" m_X9_o 2 := ⟨TW_of (i := 1741) (by decide +kernel) (by decide +kernel), im_X9_o, sl_X9_o, lb_X9_o _ _⟩
theorem im_X9_isAhead : Cond.instanceMethod m_X9_isAhead.1 ∈ TW := TW_of (i := 1771) (by decide +kernel) (by decide +kernel)
theorem sl_X9_isAhead : Cond.selects "TeaHouseModel" m_X9_isAhead.1 m_X9_isAhead.1 ∈ TW := TW_of (i := 48) (by decide +kernel) (by decide +kernel)
theorem lb_X9_isAhead : ∀ (own : String) (idx : Nat), LkB own idx m_X9_isAhead 2 := fun _ _ => ⟨iw_X9, TW_of (i := 1772) (by decide +kernel) (by decide +kernel), ⟨by decide +kernel, by decide +kernel⟩, by decide +kernel, by decide⟩
theorem lk_X9_52 : LkV "TeaHouseModel" 52 "TeaHouseModel" m_X9_isAhead 2 := ⟨TW_of (i := 1769) (by decide +kernel) (by decide +kernel), im_X9_isAhead, sl_X9_isAhead, lb_X9_isAhead _ _⟩
theorem im_X9_rankOf : Cond.instanceMethod m_X9_rankOf.1 ∈ TW := TW_of (i := 1767) (by decide +kernel) (by decide +kernel)
theorem sl_X9_rankOf : Cond.selects "TeaHouseModel" m_X9_rankOf.1 m_X9_rankOf.1 ∈ TW := TW_of (i := 47) (by decide +kernel) (by decide +kernel)
theorem lb_X9_rankOf : ∀ (own : String) (idx : Nat), LkB own idx m_X9_rankOf 1 := fun _ _ => ⟨iw_X9, TW_of (i := 1768) (by decide +kernel) (by decide +kernel), ⟨by decide +kernel, by decide +kernel⟩, by decide +kernel, by decide⟩
theorem lk_X9_56 : LkV "TeaHouseModel" 56 "TeaHouseModel" m_X9_rankOf 1 := ⟨TW_of (i := 1765) (by decide +kernel) (by decide +kernel), im_X9_rankOf, sl_X9_rankOf, lb_X9_rankOf _ _⟩
theorem im_X9_k : Cond.instanceMethod m_X9_k.1 ∈ TW := TW_of (i := 1708) (by decide +kernel) (by decide +kernel)
theorem sl_X9_k : Cond.selects "TeaHouseModel" m_X9_k.1 m_X9_k.1 ∈ TW := TW_of (i := 37) (by decide +kernel) (by decide +kernel)
theorem lb_X9_k : ∀ (own : String) (idx : Nat), LkB own idx m_X9_k 2 := fun _ _ => ⟨iw_X9, TW_of (i := 1709) (by decide +kernel) (by decide +kernel), ⟨by decide +kernel, by decide +kernel⟩, by decide +kernel, by decide⟩
theorem lk_X9_60 : LkV "TeaHouseModel" 60 "TeaHouseModel" m_X9_k 2 := ⟨TW_of (i := 1706) (by decide +kernel) (by decide +kernel), im_X9_k, sl_X9_k, lb_X9_k _ _⟩
theorem im_X9_set : Cond.instanceMethod m_X9_set.1 ∈ TW := TW_of (i := 1688) (by decide +kernel) (by decide +kernel)
theorem sl_X9_set : Cond.selects "TeaHouseModel" m_X9_set.1 m_X9_set.1 ∈ TW := TW_of (i := 33) (by decide +kernel) (by decide +kernel)
theorem lb_X9_set : ∀ (own : String) (idx : Nat), LkB own idx m_X9_set 3 := fun _ _ => ⟨iw_X9, TW_of (i := 1689) (by decide +kernel) (by decide +kernel), ⟨by decide +kernel, by decide +kernel⟩, by decide +kernel, by decide⟩
theorem lk_X9_63 : LkV "TeaHouseModel" 63 "TeaHouseModel" m_X9_set 3 := ⟨TW_of (i := 1686) (by decide +kernel) (by decide +kernel), im_X9_set, sl_X9_set, lb_X9_set _ _⟩
theorem pf_X9_40 : PF "TeaHouseModel" 40 10 4 .int := ⟨_, rfl, by decide, by decide, TW_of (i := 1621) (by decide +kernel) (by decide +kernel), rfl, by decide +kernel⟩
theorem im_X9_begins : Cond.instanceMethod m_X9_begins.1 ∈ TW := TW_of (i := 1673) (by decide +kernel) (by decide +kernel)
theorem sl_X9_begins : Cond.selects "TeaHouseModel" m_X9_begins.1 m_X9_begins.1 ∈ TW := TW_of (i := 30) (by decide +kernel) (by decide +kernel)
theorem lb_X9_begins : ∀ (own : String) (idx : Nat), LkB own idx m_X9_begins 0 := fun _ _ => ⟨iw_X9, TW_of (i := 1674) (by decide +kernel) (by decide +kernel), ⟨by decide +kernel, by decide +kernel⟩, by decide +kernel, by decide⟩
theorem lk_X9_67 : LkV "TeaHouseModel" 67 "TeaHouseModel" m_X9_begins 0 := ⟨TW_of (i := 1671) (by decide +kernel) (by decide +kernel), im_X9_begins, sl_X9_begins, lb_X9_begins _ _⟩
theorem im_X9_adds : Cond.instanceMethod m_X9_adds.1 ∈ TW := TW_of (i := 1681) (by decide +kernel) (by decide +kernel)
theorem sl_X9_adds : Cond.selects "TeaHouseModel" m_X9_adds.1 m_X9_adds.1 ∈ TW := TW_of (i := 32) (by decide +kernel) (by decide +kernel)
theorem lb_X9_adds : ∀ (own : String) (idx : Nat), LkB own idx m_X9_adds 1 := fun _ _ => ⟨iw_X9, TW_of (i := 1682) (by decide +kernel) (by decide +kernel), ⟨by decide +kernel, by decide +kernel⟩, by decide +kernel, by decide⟩
theorem lk_X9_70 : LkV "TeaHouseModel" 70 "TeaHouseModel" m_X9_adds 1 := ⟨TW_of (i := 1679) (by decide +kernel) (by decide +kernel), im_X9_adds, sl_X9_adds, lb_X9_adds _ _⟩
theorem im_X9_ends : Cond.instanceMethod m_X9_ends.1 ∈ TW := TW_of (i := 1692) (by decide +kernel) (by decide +kernel)
theorem sl_X9_ends : Cond.selects "TeaHouseModel" m_X9_ends.1 m_X9_ends.1 ∈ TW := TW_of (i := 34) (by decide +kernel) (by decide +kernel)
theorem lb_X9_ends : ∀ (own : String) (idx : Nat), LkB own idx m_X9_ends 5 := fun _ _ => ⟨iw_X9, TW_of (i := 1693) (by decide +kernel) (by decide +kernel), ⟨by decide +kernel, by decide +kernel⟩, by decide +kernel, by decide⟩
theorem lk_X9_73 : LkV "TeaHouseModel" 73 "TeaHouseModel" m_X9_ends 5 := ⟨TW_of (i := 1690) (by decide +kernel) (by decide +kernel), im_X9_ends, sl_X9_ends, lb_X9_ends _ _⟩
theorem im_X9_isKettle : Cond.instanceMethod m_X9_isKettle.1 ∈ TW := TW_of (i := 1704) (by decide +kernel) (by decide +kernel)
theorem sl_X9_isKettle : Cond.selects "TeaHouseModel" m_X9_isKettle.1 m_X9_isKettle.1 ∈ TW := TW_of (i := 36) (by decide +kernel) (by decide +kernel)
theorem lb_X9_isKettle : ∀ (own : String) (idx : Nat), LkB own idx m_X9_isKettle 1 := fun _ _ => ⟨iw_X9, TW_of (i := 1705) (by decide +kernel) (by decide +kernel), ⟨by decide +kernel, by decide +kernel⟩, by decide +kernel, by decide⟩
theorem lk_X9_77 : LkV "TeaHouseModel" 77 "TeaHouseModel" m_X9_isKettle 1 := ⟨TW_of (i := 1702) (by decide +kernel) (by decide +kernel), im_X9_isKettle, sl_X9_isKettle, lb_X9_isKettle _ _⟩
theorem im_X9_fills : Cond.instanceMethod m_X9_fills.1 ∈ TW := TW_of (i := 1700) (by decide +kernel) (by decide +kernel)
theorem sl_X9_fills : Cond.selects "TeaHouseModel" m_X9_fills.1 m_X9_fills.1 ∈ TW := TW_of (i := 35) (by decide +kernel) (by decide +kernel)
theorem lb_X9_fills : ∀ (own : String) (idx : Nat), LkB own idx m_X9_fills 2 := fun _ _ => ⟨iw_X9, TW_of (i := 1701) (by decide +kernel) (by decide +kernel), ⟨by decide +kernel, by decide +kernel⟩, by decide +kernel, by decide⟩
theorem lk_X9_81 : LkV "TeaHouseModel" 81 "TeaHouseModel" m_X9_fills 2 := ⟨TW_of (i := 1698) (by decide +kernel) (by decide +kernel), im_X9_fills, sl_X9_fills, lb_X9_fills _ _⟩
theorem sm_X9_halves : Cond.static m_X9_halves.1 ∈ TW := TW_of (i := 1711) (by decide +kernel) (by decide +kernel)
theorem lb_X9_halves : ∀ (own : String) (idx : Nat), LkB own idx m_X9_halves 1 := fun _ _ => ⟨iw_X9, TW_of (i := 1712) (by decide +kernel) (by decide +kernel), ⟨by decide +kernel, by decide +kernel⟩, by decide +kernel, by decide⟩
theorem lk_X9_84 : LkS "TeaHouseModel" 84 m_X9_halves 1 := ⟨TW_of (i := 1710) (by decide +kernel) (by decide +kernel), sm_X9_halves, lb_X9_halves _ _⟩
theorem im_X9_turns : Cond.instanceMethod m_X9_turns.1 ∈ TW := TW_of (i := 1719) (by decide +kernel) (by decide +kernel)
theorem sl_X9_turns : Cond.selects "TeaHouseModel" m_X9_turns.1 m_X9_turns.1 ∈ TW := TW_of (i := 38) (by decide +kernel) (by decide +kernel)
theorem lb_X9_turns : ∀ (own : String) (idx : Nat), LkB own idx m_X9_turns 2 := fun _ _ => ⟨iw_X9, TW_of (i := 1720) (by decide +kernel) (by decide +kernel), ⟨by decide +kernel, by decide +kernel⟩, by decide +kernel, by decide⟩
theorem lk_X9_88 : LkV "TeaHouseModel" 88 "TeaHouseModel" m_X9_turns 2 := ⟨TW_of (i := 1717) (by decide +kernel) (by decide +kernel), im_X9_turns, sl_X9_turns, lb_X9_turns _ _⟩
theorem im_X9_accepts : Cond.instanceMethod m_X9_accepts.1 ∈ TW := TW_of (i := 1727) (by decide +kernel) (by decide +kernel)
theorem sl_X9_accepts : Cond.selects "TeaHouseModel" m_X9_accepts.1 m_X9_accepts.1 ∈ TW := TW_of (i := 39) (by decide +kernel) (by decide +kernel)
theorem lb_X9_accepts : ∀ (own : String) (idx : Nat), LkB own idx m_X9_accepts 4 := fun _ _ => ⟨iw_X9, TW_of (i := 1728) (by decide +kernel) (by decide +kernel), ⟨by decide +kernel, by decide +kernel⟩, by decide +kernel, by decide⟩
theorem lk_X9_91 : LkV "TeaHouseModel" 91 "TeaHouseModel" m_X9_accepts 4 := ⟨TW_of (i := 1725) (by decide +kernel) (by decide +kernel), im_X9_accepts, sl_X9_accepts, lb_X9_accepts _ _⟩
theorem im_X9_find : Cond.instanceMethod m_X9_find.1 ∈ TW := TW_of (i := 1739) (by decide +kernel) (by decide +kernel)
theorem sl_X9_find : Cond.selects "TeaHouseModel" m_X9_find.1 m_X9_find.1 ∈ TW := TW_of (i := 41) (by decide +kernel) (by decide +kernel)
theorem lb_X9_find : ∀ (own : String) (idx : Nat), LkB own idx m_X9_find 1 := fun _ _ => ⟨iw_X9, TW_of (i := 1740) (by decide +kernel) (by decide +kernel), ⟨by decide +kernel, by decide +kernel⟩, by decide +kernel, by decide⟩
theorem lk_X9_95 : LkV "TeaHouseModel" 95 "TeaHouseModel" m_X9_find 1 := ⟨TW_of (i := 1737) (by decide +kernel) (by decide +kernel), im_X9_find, sl_X9_find, lb_X9_find _ _⟩
theorem im_X9_goes : Cond.instanceMethod m_X9_goes.1 ∈ TW := TW_of (i := 1747) (by decide +kernel) (by decide +kernel)
theorem sl_X9_goes : Cond.selects "TeaHouseModel" m_X9_goes.1 m_X9_goes.1 ∈ TW := TW_of (i := 43) (by decide +kernel) (by decide +kernel)
theorem lb_X9_goes : ∀ (own : String) (idx : Nat), LkB own idx m_X9_goes 1 := fun _ _ => ⟨iw_X9, TW_of (i := 1748) (by decide +kernel) (by decide +kernel), ⟨by decide +kernel, by decide +kernel⟩, by decide +kernel, by decide⟩
theorem lk_X9_98 : LkV "TeaHouseModel" 98 "TeaHouseModel" m_X9_goes 1 := ⟨TW_of (i := 1745) (by decide +kernel) (by decide +kernel), im_X9_goes, sl_X9_goes, lb_X9_goes _ _⟩
theorem im_X9_cancels : Cond.instanceMethod m_X9_cancels.1 ∈ TW := TW_of (i := 1735) (by decide +kernel) (by decide +kernel)
theorem sl_X9_cancels : Cond.selects "TeaHouseModel" m_X9_cancels.1 m_X9_cancels.1 ∈ TW := TW_of (i := 40) (by decide +kernel) (by decide +kernel)
theorem lb_X9_cancels : ∀ (own : String) (idx : Nat), LkB own idx m_X9_cancels 1 := fun _ _ => ⟨iw_X9, TW_of (i := 1736) (by decide +kernel) (by decide +kernel), ⟨by decide +kernel, by decide +kernel⟩, by decide +kernel, by decide⟩
theorem lk_X9_102 : LkV "TeaHouseModel" 102 "TeaHouseModel" m_X9_cancels 1 := ⟨TW_of (i := 1733) (by decide +kernel) (by decide +kernel), im_X9_cancels, sl_X9_cancels, lb_X9_cancels _ _⟩
theorem im_X9_ranked : Cond.instanceMethod m_X9_ranked.1 ∈ TW := TW_of (i := 1763) (by decide +kernel) (by decide +kernel)
theorem sl_X9_ranked : Cond.selects "TeaHouseModel" m_X9_ranked.1 m_X9_ranked.1 ∈ TW := TW_of (i := 46) (by decide +kernel) (by decide +kernel)
theorem lb_X9_ranked : ∀ (own : String) (idx : Nat), LkB own idx m_X9_ranked 1 := fun _ _ => ⟨iw_X9, TW_of (i := 1764) (by decide +kernel) (by decide +kernel), ⟨by decide +kernel, by decide +kernel⟩, by decide +kernel, by decide⟩
theorem lk_X9_105 : LkV "TeaHouseModel" 105 "TeaHouseModel" m_X9_ranked 1 := ⟨TW_of (i := 1761) (by decide +kernel) (by decide +kernel), im_X9_ranked, sl_X9_ranked, lb_X9_ranked _ _⟩
theorem im_X9_pourer : Cond.instanceMethod m_X9_pourer.1 ∈ TW := TW_of (i := 1775) (by decide +kernel) (by decide +kernel)
theorem sl_X9_pourer : Cond.selects "TeaHouseModel" m_X9_pourer.1 m_X9_pourer.1 ∈ TW := TW_of (i := 49) (by decide +kernel) (by decide +kernel)
theorem lb_X9_pourer : ∀ (own : String) (idx : Nat), LkB own idx m_X9_pourer 1 := fun _ _ => ⟨iw_X9, TW_of (i := 1776) (by decide +kernel) (by decide +kernel), ⟨by decide +kernel, by decide +kernel⟩, by decide +kernel, by decide⟩
theorem lk_X9_108 : LkV "TeaHouseModel" 108 "TeaHouseModel" m_X9_pourer 1 := ⟨TW_of (i := 1773) (by decide +kernel) (by decide +kernel), im_X9_pourer, sl_X9_pourer, lb_X9_pourer _ _⟩
theorem im_X9_isServable : Cond.instanceMethod m_X9_isServable.1 ∈ TW := TW_of (i := 1759) (by decide +kernel) (by decide +kernel)
theorem sl_X9_isServable : Cond.selects "TeaHouseModel" m_X9_isServable.1 m_X9_isServable.1 ∈ TW := TW_of (i := 45) (by decide +kernel) (by decide +kernel)
theorem lb_X9_isServable : ∀ (own : String) (idx : Nat), LkB own idx m_X9_isServable 0 := fun _ _ => ⟨iw_X9, TW_of (i := 1760) (by decide +kernel) (by decide +kernel), ⟨by decide +kernel, by decide +kernel⟩, by decide +kernel, by decide⟩
theorem lk_X9_111 : LkV "TeaHouseModel" 111 "TeaHouseModel" m_X9_isServable 0 := ⟨TW_of (i := 1757) (by decide +kernel) (by decide +kernel), im_X9_isServable, sl_X9_isServable, lb_X9_isServable _ _⟩
theorem im_X9_earns : Cond.instanceMethod m_X9_earns.1 ∈ TW := TW_of (i := 1779) (by decide +kernel) (by decide +kernel)
theorem sl_X9_earns : Cond.selects "TeaHouseModel" m_X9_earns.1 m_X9_earns.1 ∈ TW := TW_of (i := 50) (by decide +kernel) (by decide +kernel)
theorem lb_X9_earns : ∀ (own : String) (idx : Nat), LkB own idx m_X9_earns 2 := fun _ _ => ⟨iw_X9, TW_of (i := 1780) (by decide +kernel) (by decide +kernel), ⟨by decide +kernel, by decide +kernel⟩, by decide +kernel, by decide⟩
theorem lk_X9_115 : LkV "TeaHouseModel" 115 "TeaHouseModel" m_X9_earns 2 := ⟨TW_of (i := 1777) (by decide +kernel) (by decide +kernel), im_X9_earns, sl_X9_earns, lb_X9_earns _ _⟩
theorem im_X9_serves : Cond.instanceMethod m_X9_serves.1 ∈ TW := TW_of (i := 1755) (by decide +kernel) (by decide +kernel)
theorem sl_X9_serves : Cond.selects "TeaHouseModel" m_X9_serves.1 m_X9_serves.1 ∈ TW := TW_of (i := 44) (by decide +kernel) (by decide +kernel)
theorem lb_X9_serves : ∀ (own : String) (idx : Nat), LkB own idx m_X9_serves 0 := fun _ _ => ⟨iw_X9, TW_of (i := 1756) (by decide +kernel) (by decide +kernel), ⟨by decide +kernel, by decide +kernel⟩, by decide +kernel, by decide⟩
theorem lk_X9_118 : LkV "TeaHouseModel" 118 "TeaHouseModel" m_X9_serves 0 := ⟨TW_of (i := 1753) (by decide +kernel) (by decide +kernel), im_X9_serves, sl_X9_serves, lb_X9_serves _ _⟩
theorem im_X9_washes : Cond.instanceMethod m_X9_washes.1 ∈ TW := TW_of (i := 1787) (by decide +kernel) (by decide +kernel)
theorem sl_X9_washes : Cond.selects "TeaHouseModel" m_X9_washes.1 m_X9_washes.1 ∈ TW := TW_of (i := 51) (by decide +kernel) (by decide +kernel)
theorem lb_X9_washes : ∀ (own : String) (idx : Nat), LkB own idx m_X9_washes 1 := fun _ _ => ⟨iw_X9, TW_of (i := 1788) (by decide +kernel) (by decide +kernel), ⟨by decide +kernel, by decide +kernel⟩, by decide +kernel, by decide⟩
theorem lk_X9_122 : LkV "TeaHouseModel" 122 "TeaHouseModel" m_X9_washes 1 := ⟨TW_of (i := 1785) (by decide +kernel) (by decide +kernel), im_X9_washes, sl_X9_washes, lb_X9_washes _ _⟩
theorem im_X9_sells : Cond.instanceMethod m_X9_sells.1 ∈ TW := TW_of (i := 1795) (by decide +kernel) (by decide +kernel)
theorem sl_X9_sells : Cond.selects "TeaHouseModel" m_X9_sells.1 m_X9_sells.1 ∈ TW := TW_of (i := 52) (by decide +kernel) (by decide +kernel)
theorem lb_X9_sells : ∀ (own : String) (idx : Nat), LkB own idx m_X9_sells 1 := fun _ _ => ⟨iw_X9, TW_of (i := 1796) (by decide +kernel) (by decide +kernel), ⟨by decide +kernel, by decide +kernel⟩, by decide +kernel, by decide⟩
theorem lk_X9_125 : LkV "TeaHouseModel" 125 "TeaHouseModel" m_X9_sells 1 := ⟨TW_of (i := 1793) (by decide +kernel) (by decide +kernel), im_X9_sells, sl_X9_sells, lb_X9_sells _ _⟩
theorem sm_X9_eighths : Cond.static m_X9_eighths.1 ∈ TW := TW_of (i := 1798) (by decide +kernel) (by decide +kernel)
theorem lb_X9_eighths : ∀ (own : String) (idx : Nat), LkB own idx m_X9_eighths 1 := fun _ _ => ⟨iw_X9, TW_of (i := 1799) (by decide +kernel) (by decide +kernel), ⟨by decide +kernel, by decide +kernel⟩, by decide +kernel, by decide⟩
theorem lk_X9_128 : LkS "TeaHouseModel" 128 m_X9_eighths 1 := ⟨TW_of (i := 1797) (by decide +kernel) (by decide +kernel), sm_X9_eighths, lb_X9_eighths _ _⟩
theorem im_X9_prices : Cond.instanceMethod m_X9_prices.1 ∈ TW := TW_of (i := 1807) (by decide +kernel) (by decide +kernel)
theorem sl_X9_prices : Cond.selects "TeaHouseModel" m_X9_prices.1 m_X9_prices.1 ∈ TW := TW_of (i := 53) (by decide +kernel) (by decide +kernel)
theorem lb_X9_prices : ∀ (own : String) (idx : Nat), LkB own idx m_X9_prices 2 := fun _ _ => ⟨iw_X9, TW_of (i := 1808) (by decide +kernel) (by decide +kernel), ⟨by decide +kernel, by decide +kernel⟩, by decide +kernel, by decide⟩
theorem lk_X9_131 : LkV "TeaHouseModel" 131 "TeaHouseModel" m_X9_prices 2 := ⟨TW_of (i := 1805) (by decide +kernel) (by decide +kernel), im_X9_prices, sl_X9_prices, lb_X9_prices _ _⟩
theorem im_X9_attends : Cond.instanceMethod m_X9_attends.1 ∈ TW := TW_of (i := 1819) (by decide +kernel) (by decide +kernel)
theorem sl_X9_attends : Cond.selects "TeaHouseModel" m_X9_attends.1 m_X9_attends.1 ∈ TW := TW_of (i := 54) (by decide +kernel) (by decide +kernel)
theorem lb_X9_attends : ∀ (own : String) (idx : Nat), LkB own idx m_X9_attends 1 := fun _ _ => ⟨iw_X9, TW_of (i := 1820) (by decide +kernel) (by decide +kernel), ⟨by decide +kernel, by decide +kernel⟩, by decide +kernel, by decide⟩
theorem lk_X9_134 : LkV "TeaHouseModel" 134 "TeaHouseModel" m_X9_attends 1 := ⟨TW_of (i := 1817) (by decide +kernel) (by decide +kernel), im_X9_attends, sl_X9_attends, lb_X9_attends _ _⟩
theorem im_X9_heats : Cond.instanceMethod m_X9_heats.1 ∈ TW := TW_of (i := 1831) (by decide +kernel) (by decide +kernel)
theorem sl_X9_heats : Cond.selects "TeaHouseModel" m_X9_heats.1 m_X9_heats.1 ∈ TW := TW_of (i := 56) (by decide +kernel) (by decide +kernel)
theorem lb_X9_heats : ∀ (own : String) (idx : Nat), LkB own idx m_X9_heats 1 := fun _ _ => ⟨iw_X9, TW_of (i := 1832) (by decide +kernel) (by decide +kernel), ⟨by decide +kernel, by decide +kernel⟩, by decide +kernel, by decide⟩
theorem lk_X9_137 : LkV "TeaHouseModel" 137 "TeaHouseModel" m_X9_heats 1 := ⟨TW_of (i := 1829) (by decide +kernel) (by decide +kernel), im_X9_heats, sl_X9_heats, lb_X9_heats _ _⟩
theorem im_X9_passes : Cond.instanceMethod m_X9_passes.1 ∈ TW := TW_of (i := 1827) (by decide +kernel) (by decide +kernel)
theorem sl_X9_passes : Cond.selects "TeaHouseModel" m_X9_passes.1 m_X9_passes.1 ∈ TW := TW_of (i := 55) (by decide +kernel) (by decide +kernel)
theorem lb_X9_passes : ∀ (own : String) (idx : Nat), LkB own idx m_X9_passes 1 := fun _ _ => ⟨iw_X9, TW_of (i := 1828) (by decide +kernel) (by decide +kernel), ⟨by decide +kernel, by decide +kernel⟩, by decide +kernel, by decide⟩
theorem lk_X9_140 : LkV "TeaHouseModel" 140 "TeaHouseModel" m_X9_passes 1 := ⟨TW_of (i := 1825) (by decide +kernel) (by decide +kernel), im_X9_passes, sl_X9_passes, lb_X9_passes _ _⟩
theorem im_X9_closes : Cond.instanceMethod m_X9_closes.1 ∈ TW := TW_of (i := 1839) (by decide +kernel) (by decide +kernel)
theorem sl_X9_closes : Cond.selects "TeaHouseModel" m_X9_closes.1 m_X9_closes.1 ∈ TW := TW_of (i := 57) (by decide +kernel) (by decide +kernel)
theorem lb_X9_closes : ∀ (own : String) (idx : Nat), LkB own idx m_X9_closes 0 := fun _ _ => ⟨iw_X9, TW_of (i := 1840) (by decide +kernel) (by decide +kernel), ⟨by decide +kernel, by decide +kernel⟩, by decide +kernel, by decide⟩
theorem lk_X9_143 : LkV "TeaHouseModel" 143 "TeaHouseModel" m_X9_closes 0 := ⟨TW_of (i := 1837) (by decide +kernel) (by decide +kernel), im_X9_closes, sl_X9_closes, lb_X9_closes _ _⟩
theorem im_X9_told : Cond.instanceMethod m_X9_told.1 ∈ TW := TW_of (i := 1847) (by decide +kernel) (by decide +kernel)
theorem sl_X9_told : Cond.selects "TeaHouseModel" m_X9_told.1 m_X9_told.1 ∈ TW := TW_of (i := 58) (by decide +kernel) (by decide +kernel)
theorem lb_X9_told : ∀ (own : String) (idx : Nat), LkB own idx m_X9_told 1 := fun _ _ => ⟨iw_X9, TW_of (i := 1848) (by decide +kernel) (by decide +kernel), ⟨by decide +kernel, by decide +kernel⟩, by decide +kernel, by decide⟩
theorem lk_X9_146 : LkV "TeaHouseModel" 146 "TeaHouseModel" m_X9_told 1 := ⟨TW_of (i := 1845) (by decide +kernel) (by decide +kernel), im_X9_told, sl_X9_told, lb_X9_told _ _⟩
theorem im_X9_isFine : Cond.instanceMethod m_X9_isFine.1 ∈ TW := TW_of (i := 1859) (by decide +kernel) (by decide +kernel)
theorem sl_X9_isFine : Cond.selects "TeaHouseModel" m_X9_isFine.1 m_X9_isFine.1 ∈ TW := TW_of (i := 60) (by decide +kernel) (by decide +kernel)
theorem lb_X9_isFine : ∀ (own : String) (idx : Nat), LkB own idx m_X9_isFine 1 := fun _ _ => ⟨iw_X9, TW_of (i := 1860) (by decide +kernel) (by decide +kernel), ⟨by decide +kernel, by decide +kernel⟩, by decide +kernel, by decide⟩
theorem lk_X9_149 : LkV "TeaHouseModel" 149 "TeaHouseModel" m_X9_isFine 1 := ⟨TW_of (i := 1857) (by decide +kernel) (by decide +kernel), im_X9_isFine, sl_X9_isFine, lb_X9_isFine _ _⟩
theorem im_X9_ofKettle : Cond.instanceMethod m_X9_ofKettle.1 ∈ TW := TW_of (i := 1855) (by decide +kernel) (by decide +kernel)
theorem sl_X9_ofKettle : Cond.selects "TeaHouseModel" m_X9_ofKettle.1 m_X9_ofKettle.1 ∈ TW := TW_of (i := 59) (by decide +kernel) (by decide +kernel)
theorem lb_X9_ofKettle : ∀ (own : String) (idx : Nat), LkB own idx m_X9_ofKettle 2 := fun _ _ => ⟨iw_X9, TW_of (i := 1856) (by decide +kernel) (by decide +kernel), ⟨by decide +kernel, by decide +kernel⟩, by decide +kernel, by decide⟩
theorem lk_X9_153 : LkV "TeaHouseModel" 153 "TeaHouseModel" m_X9_ofKettle 2 := ⟨TW_of (i := 1853) (by decide +kernel) (by decide +kernel), im_X9_ofKettle, sl_X9_ofKettle, lb_X9_ofKettle _ _⟩
theorem sm_Jxf58ca_floatToIntBits_5c35a : Cond.static m_Jxf58ca_floatToIntBits_5c35a.1 ∈ TW := TW_of (i := 1874) (by decide +kernel) (by decide +kernel)
theorem iw_Jxf58ca : Cond.initialized "java/lang/Float" ∈ TW := TW_of (i := 99) (by decide +kernel) (by decide +kernel)
theorem lb_Jxf58ca_floatToIntBits_5c35a : ∀ (own : String) (idx : Nat), LkB own idx m_Jxf58ca_floatToIntBits_5c35a 1 := fun _ _ => ⟨iw_Jxf58ca, TW_of (i := 1875) (by decide +kernel) (by decide +kernel), ⟨by decide +kernel, by decide +kernel⟩, by decide +kernel, by decide⟩
theorem lk_X9_156 : LkS "TeaHouseModel" 156 m_Jxf58ca_floatToIntBits_5c35a 1 := ⟨TW_of (i := 1873) (by decide +kernel) (by decide +kernel), sm_Jxf58ca_floatToIntBits_5c35a, lb_Jxf58ca_floatToIntBits_5c35a _ _⟩
theorem im_X9_minutesUntilBoiling : Cond.instanceMethod m_X9_minutesUntilBoiling.1 ∈ TW := TW_of (i := 1892) (by decide +kernel) (by decide +kernel)
theorem sl_X9_minutesUntilBoiling : Cond.selects "TeaHouseModel" m_X9_minutesUntilBoiling.1 m_X9_minutesUntilBoiling.1 ∈ TW := TW_of (i := 1893) (by decide +kernel) (by decide +kernel)
theorem lb_X9_minutesUntilBoiling : ∀ (own : String) (idx : Nat), LkB own idx m_X9_minutesUntilBoiling 1 := fun _ _ => ⟨iw_X9, TW_of (i := 1894) (by decide +kernel) (by decide +kernel), ⟨by decide +kernel, by decide +kernel⟩, by decide +kernel, by decide⟩
theorem lk_X9_162 : LkV "TeaHouseModel" 162 "TeaHouseModel" m_X9_minutesUntilBoiling 1 := ⟨TW_of (i := 1899) (by decide +kernel) (by decide +kernel), im_X9_minutesUntilBoiling, sl_X9_minutesUntilBoiling, lb_X9_minutesUntilBoiling _ _⟩
theorem im_X9_ofOrder : Cond.instanceMethod m_X9_ofOrder.1 ∈ TW := TW_of (i := 1922) (by decide +kernel) (by decide +kernel)
theorem sl_X9_ofOrder : Cond.selects "TeaHouseModel" m_X9_ofOrder.1 m_X9_ofOrder.1 ∈ TW := TW_of (i := 61) (by decide +kernel) (by decide +kernel)
theorem lb_X9_ofOrder : ∀ (own : String) (idx : Nat), LkB own idx m_X9_ofOrder 2 := fun _ _ => ⟨iw_X9, TW_of (i := 1923) (by decide +kernel) (by decide +kernel), ⟨by decide +kernel, by decide +kernel⟩, by decide +kernel, by decide⟩
theorem lk_X9_165 : LkV "TeaHouseModel" 165 "TeaHouseModel" m_X9_ofOrder 2 := ⟨TW_of (i := 1920) (by decide +kernel) (by decide +kernel), im_X9_ofOrder, sl_X9_ofOrder, lb_X9_ofOrder _ _⟩
theorem im_X9_greatestIncome : Cond.instanceMethod m_X9_greatestIncome.1 ∈ TW := TW_of (i := 1985) (by decide +kernel) (by decide +kernel)
theorem sl_X9_greatestIncome : Cond.selects "TeaHouseModel" m_X9_greatestIncome.1 m_X9_greatestIncome.1 ∈ TW := TW_of (i := 1986) (by decide +kernel) (by decide +kernel)
theorem lb_X9_greatestIncome : ∀ (own : String) (idx : Nat), LkB own idx m_X9_greatestIncome 1 := fun _ _ => ⟨iw_X9, TW_of (i := 1987) (by decide +kernel) (by decide +kernel), ⟨by decide +kernel, by decide +kernel⟩, by decide +kernel, by decide⟩
theorem lk_X9_168 : LkV "TeaHouseModel" 168 "TeaHouseModel" m_X9_greatestIncome 1 := ⟨TW_of (i := 1992) (by decide +kernel) (by decide +kernel), im_X9_greatestIncome, sl_X9_greatestIncome, lb_X9_greatestIncome _ _⟩
theorem im_X9_totalIncome : Cond.instanceMethod m_X9_totalIncome.1 ∈ TW := TW_of (i := 1994) (by decide +kernel) (by decide +kernel)
theorem sl_X9_totalIncome : Cond.selects "TeaHouseModel" m_X9_totalIncome.1 m_X9_totalIncome.1 ∈ TW := TW_of (i := 1995) (by decide +kernel) (by decide +kernel)
theorem lb_X9_totalIncome : ∀ (own : String) (idx : Nat), LkB own idx m_X9_totalIncome 0 := fun _ _ => ⟨iw_X9, TW_of (i := 1996) (by decide +kernel) (by decide +kernel), ⟨by decide +kernel, by decide +kernel⟩, by decide +kernel, by decide⟩
theorem lk_X9_171 : LkV "TeaHouseModel" 171 "TeaHouseModel" m_X9_totalIncome 0 := ⟨TW_of (i := 2001) (by decide +kernel) (by decide +kernel), im_X9_totalIncome, sl_X9_totalIncome, lb_X9_totalIncome _ _⟩
theorem gf_X9_13 : GF "TeaHouseModel" 13 10 5 := ⟨_, rfl, by decide, by decide, TW_of (i := 1622) (by decide +kernel) (by decide +kernel)⟩
theorem gf_X9_177 : GF "TeaHouseModel" 177 10 6 := ⟨_, rfl, by decide, by decide, TW_of (i := 1623) (by decide +kernel) (by decide +kernel)⟩
theorem pf_X9_177 : PF "TeaHouseModel" 177 10 6 .int := ⟨_, rfl, by decide, by decide, TW_of (i := 1623) (by decide +kernel) (by decide +kernel), rfl, by decide +kernel⟩
theorem im_X9_writesNumber : Cond.instanceMethod m_X9_writesNumber.1 ∈ TW := TW_of (i := 2037) (by decide +kernel) (by decide +kernel)
theorem sl_X9_writesNumber : Cond.selects "TeaHouseModel" m_X9_writesNumber.1 m_X9_writesNumber.1 ∈ TW := TW_of (i := 63) (by decide +kernel) (by decide +kernel)
theorem lb_X9_writesNumber : ∀ (own : String) (idx : Nat), LkB own idx m_X9_writesNumber 1 := fun _ _ => ⟨iw_X9, TW_of (i := 2038) (by decide +kernel) (by decide +kernel), ⟨by decide +kernel, by decide +kernel⟩, by decide +kernel, by decide⟩
theorem lk_X9_180 : LkV "TeaHouseModel" 180 "TeaHouseModel" m_X9_writesNumber 1 := ⟨TW_of (i := 2035) (by decide +kernel) (by decide +kernel), im_X9_writesNumber, sl_X9_writesNumber, lb_X9_writesNumber _ _⟩
theorem im_X9_writes : Cond.instanceMethod m_X9_writes.1 ∈ TW := TW_of (i := 2033) (by decide +kernel) (by decide +kernel)
theorem sl_X9_writes : Cond.selects "TeaHouseModel" m_X9_writes.1 m_X9_writes.1 ∈ TW := TW_of (i := 62) (by decide +kernel) (by decide +kernel)
theorem lb_X9_writes : ∀ (own : String) (idx : Nat), LkB own idx m_X9_writes 1 := fun _ _ => ⟨iw_X9, TW_of (i := 2034) (by decide +kernel) (by decide +kernel), ⟨by decide +kernel, by decide +kernel⟩, by decide +kernel, by decide⟩
theorem lk_X9_183 : LkV "TeaHouseModel" 183 "TeaHouseModel" m_X9_writes 1 := ⟨TW_of (i := 2031) (by decide +kernel) (by decide +kernel), im_X9_writes, sl_X9_writes, lb_X9_writes _ _⟩
theorem im_X9_writesBehind : Cond.instanceMethod m_X9_writesBehind.1 ∈ TW := TW_of (i := 2045) (by decide +kernel) (by decide +kernel)
theorem sl_X9_writesBehind : Cond.selects "TeaHouseModel" m_X9_writesBehind.1 m_X9_writesBehind.1 ∈ TW := TW_of (i := 64) (by decide +kernel) (by decide +kernel)
theorem lb_X9_writesBehind : ∀ (own : String) (idx : Nat), LkB own idx m_X9_writesBehind 2 := fun _ _ => ⟨iw_X9, TW_of (i := 2046) (by decide +kernel) (by decide +kernel), ⟨by decide +kernel, by decide +kernel⟩, by decide +kernel, by decide⟩
theorem lk_X9_186 : LkV "TeaHouseModel" 186 "TeaHouseModel" m_X9_writesBehind 2 := ⟨TW_of (i := 2043) (by decide +kernel) (by decide +kernel), im_X9_writesBehind, sl_X9_writesBehind, lb_X9_writesBehind _ _⟩
theorem gf_X9_189 : GF "TeaHouseModel" 189 10 8 := ⟨_, rfl, by decide, by decide, TW_of (i := 1625) (by decide +kernel) (by decide +kernel)⟩
theorem gf_X9_17 : GF "TeaHouseModel" 17 10 7 := ⟨_, rfl, by decide, by decide, TW_of (i := 1624) (by decide +kernel) (by decide +kernel)⟩
theorem pf_X9_189 : PF "TeaHouseModel" 189 10 8 .int := ⟨_, rfl, by decide, by decide, TW_of (i := 1625) (by decide +kernel) (by decide +kernel), rfl, by decide +kernel⟩
theorem gf_X9_192 : GF "TeaHouseModel" 192 10 9 := ⟨_, rfl, by decide, by decide, TW_of (i := 1626) (by decide +kernel) (by decide +kernel)⟩
theorem gf_X9_195 : GF "TeaHouseModel" 195 10 10 := ⟨_, rfl, by decide, by decide, TW_of (i := 1627) (by decide +kernel) (by decide +kernel)⟩
theorem im_X9_sign : Cond.instanceMethod m_X9_sign.1 ∈ TW := TW_of (i := 2073) (by decide +kernel) (by decide +kernel)
theorem sl_X9_sign : Cond.selects "TeaHouseModel" m_X9_sign.1 m_X9_sign.1 ∈ TW := TW_of (i := 67) (by decide +kernel) (by decide +kernel)
theorem lb_X9_sign : ∀ (own : String) (idx : Nat), LkB own idx m_X9_sign 0 := fun _ _ => ⟨iw_X9, TW_of (i := 2074) (by decide +kernel) (by decide +kernel), ⟨by decide +kernel, by decide +kernel⟩, by decide +kernel, by decide⟩
theorem lk_X9_198 : LkV "TeaHouseModel" 198 "TeaHouseModel" m_X9_sign 0 := ⟨TW_of (i := 2071) (by decide +kernel) (by decide +kernel), im_X9_sign, sl_X9_sign, lb_X9_sign _ _⟩
theorem pf_X9_195 : PF "TeaHouseModel" 195 10 10 .int := ⟨_, rfl, by decide, by decide, TW_of (i := 1627) (by decide +kernel) (by decide +kernel), rfl, by decide +kernel⟩
theorem pf_X9_192 : PF "TeaHouseModel" 192 10 9 .int := ⟨_, rfl, by decide, by decide, TW_of (i := 1626) (by decide +kernel) (by decide +kernel), rfl, by decide +kernel⟩
theorem im_X9_needs : Cond.instanceMethod m_X9_needs.1 ∈ TW := TW_of (i := 2085) (by decide +kernel) (by decide +kernel)
theorem sl_X9_needs : Cond.selects "TeaHouseModel" m_X9_needs.1 m_X9_needs.1 ∈ TW := TW_of (i := 70) (by decide +kernel) (by decide +kernel)
theorem lb_X9_needs : ∀ (own : String) (idx : Nat), LkB own idx m_X9_needs 1 := fun _ _ => ⟨iw_X9, TW_of (i := 2086) (by decide +kernel) (by decide +kernel), ⟨by decide +kernel, by decide +kernel⟩, by decide +kernel, by decide⟩
theorem lk_X9_201 : LkV "TeaHouseModel" 201 "TeaHouseModel" m_X9_needs 1 := ⟨TW_of (i := 2083) (by decide +kernel) (by decide +kernel), im_X9_needs, sl_X9_needs, lb_X9_needs _ _⟩
theorem im_X9_letters : Cond.instanceMethod m_X9_letters.1 ∈ TW := TW_of (i := 2081) (by decide +kernel) (by decide +kernel)
theorem sl_X9_letters : Cond.selects "TeaHouseModel" m_X9_letters.1 m_X9_letters.1 ∈ TW := TW_of (i := 69) (by decide +kernel) (by decide +kernel)
theorem lb_X9_letters : ∀ (own : String) (idx : Nat), LkB own idx m_X9_letters 3 := fun _ _ => ⟨iw_X9, TW_of (i := 2082) (by decide +kernel) (by decide +kernel), ⟨by decide +kernel, by decide +kernel⟩, by decide +kernel, by decide⟩
theorem lk_X9_204 : LkV "TeaHouseModel" 204 "TeaHouseModel" m_X9_letters 3 := ⟨TW_of (i := 2079) (by decide +kernel) (by decide +kernel), im_X9_letters, sl_X9_letters, lb_X9_letters _ _⟩
theorem gf_X9_207 : GF "TeaHouseModel" 207 10 14 := ⟨_, rfl, by decide, by decide, TW_of (i := 1631) (by decide +kernel) (by decide +kernel)⟩
theorem pf_X9_207 : PF "TeaHouseModel" 207 10 14 .int := ⟨_, rfl, by decide, by decide, TW_of (i := 1631) (by decide +kernel) (by decide +kernel), rfl, by decide +kernel⟩
theorem gf_X9_27 : GF "TeaHouseModel" 27 10 13 := ⟨_, rfl, by decide, by decide, TW_of (i := 1630) (by decide +kernel) (by decide +kernel)⟩
theorem im_X9_word : Cond.instanceMethod m_X9_word.1 ∈ TW := TW_of (i := 2077) (by decide +kernel) (by decide +kernel)
theorem sl_X9_word : Cond.selects "TeaHouseModel" m_X9_word.1 m_X9_word.1 ∈ TW := TW_of (i := 68) (by decide +kernel) (by decide +kernel)
theorem lb_X9_word : ∀ (own : String) (idx : Nat), LkB own idx m_X9_word 1 := fun _ _ => ⟨iw_X9, TW_of (i := 2078) (by decide +kernel) (by decide +kernel), ⟨by decide +kernel, by decide +kernel⟩, by decide +kernel, by decide⟩
theorem lk_X9_210 : LkV "TeaHouseModel" 210 "TeaHouseModel" m_X9_word 1 := ⟨TW_of (i := 2075) (by decide +kernel) (by decide +kernel), im_X9_word, sl_X9_word, lb_X9_word _ _⟩
theorem im_X9_number : Cond.instanceMethod m_X9_number.1 ∈ TW := TW_of (i := 2089) (by decide +kernel) (by decide +kernel)
theorem sl_X9_number : Cond.selects "TeaHouseModel" m_X9_number.1 m_X9_number.1 ∈ TW := TW_of (i := 71) (by decide +kernel) (by decide +kernel)
theorem lb_X9_number : ∀ (own : String) (idx : Nat), LkB own idx m_X9_number 1 := fun _ _ => ⟨iw_X9, TW_of (i := 2090) (by decide +kernel) (by decide +kernel), ⟨by decide +kernel, by decide +kernel⟩, by decide +kernel, by decide⟩
theorem lk_X9_213 : LkV "TeaHouseModel" 213 "TeaHouseModel" m_X9_number 1 := ⟨TW_of (i := 2087) (by decide +kernel) (by decide +kernel), im_X9_number, sl_X9_number, lb_X9_number _ _⟩
theorem im_X9_command : Cond.instanceMethod m_X9_command.1 ∈ TW := TW_of (i := 2069) (by decide +kernel) (by decide +kernel)
theorem sl_X9_command : Cond.selects "TeaHouseModel" m_X9_command.1 m_X9_command.1 ∈ TW := TW_of (i := 66) (by decide +kernel) (by decide +kernel)
theorem lb_X9_command : ∀ (own : String) (idx : Nat), LkB own idx m_X9_command 0 := fun _ _ => ⟨iw_X9, TW_of (i := 2070) (by decide +kernel) (by decide +kernel), ⟨by decide +kernel, by decide +kernel⟩, by decide +kernel, by decide⟩
theorem lk_X9_216 : LkV "TeaHouseModel" 216 "TeaHouseModel" m_X9_command 0 := ⟨TW_of (i := 2067) (by decide +kernel) (by decide +kernel), im_X9_command, sl_X9_command, lb_X9_command _ _⟩
theorem im_X9_parse : Cond.instanceMethod m_X9_parse.1 ∈ TW := TW_of (i := 2065) (by decide +kernel) (by decide +kernel)
theorem sl_X9_parse : Cond.selects "TeaHouseModel" m_X9_parse.1 m_X9_parse.1 ∈ TW := TW_of (i := 65) (by decide +kernel) (by decide +kernel)
theorem lb_X9_parse : ∀ (own : String) (idx : Nat), LkB own idx m_X9_parse 0 := fun _ _ => ⟨iw_X9, TW_of (i := 2066) (by decide +kernel) (by decide +kernel), ⟨by decide +kernel, by decide +kernel⟩, by decide +kernel, by decide⟩
theorem lk_X9_219 : LkV "TeaHouseModel" 219 "TeaHouseModel" m_X9_parse 0 := ⟨TW_of (i := 2063) (by decide +kernel) (by decide +kernel), im_X9_parse, sl_X9_parse, lb_X9_parse _ _⟩
theorem im_X9_does : Cond.instanceMethod m_X9_does.1 ∈ TW := TW_of (i := 2093) (by decide +kernel) (by decide +kernel)
theorem sl_X9_does : Cond.selects "TeaHouseModel" m_X9_does.1 m_X9_does.1 ∈ TW := TW_of (i := 72) (by decide +kernel) (by decide +kernel)
theorem lb_X9_does : ∀ (own : String) (idx : Nat), LkB own idx m_X9_does 1 := fun _ _ => ⟨iw_X9, TW_of (i := 2094) (by decide +kernel) (by decide +kernel), ⟨by decide +kernel, by decide +kernel⟩, by decide +kernel, by decide⟩
theorem lk_X9_222 : LkV "TeaHouseModel" 222 "TeaHouseModel" m_X9_does 1 := ⟨TW_of (i := 2091) (by decide +kernel) (by decide +kernel), im_X9_does, sl_X9_does, lb_X9_does _ _⟩
theorem gf_X9_24 : GF "TeaHouseModel" 24 10 12 := ⟨_, rfl, by decide, by decide, TW_of (i := 1629) (by decide +kernel) (by decide +kernel)⟩
theorem gf_X9_20 : GF "TeaHouseModel" 20 10 11 := ⟨_, rfl, by decide, by decide, TW_of (i := 1628) (by decide +kernel) (by decide +kernel)⟩
theorem pf_X9_225 : PF "TeaHouseModel" 225 10 3 .boolean := ⟨_, rfl, by decide, by decide, TW_of (i := 1620) (by decide +kernel) (by decide +kernel), rfl, by decide +kernel⟩
theorem gf_X9_225 : GF "TeaHouseModel" 225 10 3 := ⟨_, rfl, by decide, by decide, TW_of (i := 1620) (by decide +kernel) (by decide +kernel)⟩
theorem oi_J5_3 : Cond.methodLink "java/lang/AbstractStringBuilder" 3 Lib.objectInit ∈ TW := TW_of (i := 320) (by decide +kernel) (by decide +kernel)
theorem gs_J5_18 : Cond.fieldLink "java/lang/AbstractStringBuilder" 18 "java/lang/String" "COMPACT_STRINGS" "Z" ∈ TW := TW_of (i := 321) (by decide +kernel) (by decide +kernel)
theorem pf_J5_15 : PF "java/lang/AbstractStringBuilder" 15 1 0 (.array .byte) := ⟨_, rfl, by decide, by decide, TW_of (i := 330) (by decide +kernel) (by decide +kernel), rfl, by decide +kernel⟩
theorem pf_J5_22 : PF "java/lang/AbstractStringBuilder" 22 1 1 .byte := ⟨_, rfl, by decide, by decide, TW_of (i := 331) (by decide +kernel) (by decide +kernel), rfl, by decide +kernel⟩
theorem sm_J2_newBytesFor_77867 : Cond.static m_J2_newBytesFor_77867.1 ∈ TW := TW_of (i := 324) (by decide +kernel) (by decide +kernel)
theorem iw_J2 : Cond.initialized "java/lang/StringUTF16" ∈ TW := TW_of (i := 83) (by decide +kernel) (by decide +kernel)
theorem lb_J2_newBytesFor_77867 : ∀ (own : String) (idx : Nat), LkB own idx m_J2_newBytesFor_77867 1 := fun _ _ => ⟨iw_J2, TW_of (i := 325) (by decide +kernel) (by decide +kernel), ⟨by decide +kernel, by decide +kernel⟩, by decide +kernel, by decide⟩
theorem lk_J5_26 : LkS "java/lang/AbstractStringBuilder" 26 m_J2_newBytesFor_77867 1 := ⟨TW_of (i := 323) (by decide +kernel) (by decide +kernel), sm_J2_newBytesFor_77867, lb_J2_newBytesFor_77867 _ _⟩
theorem gf_J5_79 : GF "java/lang/AbstractStringBuilder" 79 1 3 := ⟨_, rfl, by decide, by decide, TW_of (i := 334) (by decide +kernel) (by decide +kernel)⟩
theorem gf_J5_15 : GF "java/lang/AbstractStringBuilder" 15 1 0 := ⟨_, rfl, by decide, by decide, TW_of (i := 330) (by decide +kernel) (by decide +kernel)⟩
theorem gf_J5_22 : GF "java/lang/AbstractStringBuilder" 22 1 1 := ⟨_, rfl, by decide, by decide, TW_of (i := 331) (by decide +kernel) (by decide +kernel)⟩
theorem sl_J5_newCapacity_0f7a4 : Cond.selects "java/lang/StringBuilder" m_J5_newCapacity_0f7a4.1 m_J5_newCapacity_0f7a4.1 ∈ TW := TW_of2 (i := 1) (by decide +kernel) (by decide +kernel)
theorem im_J5_newCapacity_0f7a4 : Cond.instanceMethod m_J5_newCapacity_0f7a4.1 ∈ TW := TW_of (i := 871) (by decide +kernel) (by decide +kernel)
theorem iw_J5 : Cond.initialized "java/lang/AbstractStringBuilder" ∈ TW := TW_of (i := 80) (by decide +kernel) (by decide +kernel)
theorem lb_J5_newCapacity_0f7a4 : ∀ (own : String) (idx : Nat), LkB own idx m_J5_newCapacity_0f7a4 1 := fun _ _ => ⟨iw_J5, TW_of (i := 872) (by decide +kernel) (by decide +kernel), ⟨by decide +kernel, by decide +kernel⟩, by decide +kernel, by decide⟩
theorem lk_J5_104 : LkU "java/lang/AbstractStringBuilder" 104 "java/lang/StringBuilder" "java/lang/AbstractStringBuilder" ⟨"java/lang/AbstractStringBuilder", "newCapacity", "(I)I"⟩ m_J5_newCapacity_0f7a4 1 := ⟨TW_of (i := 869) (by decide +kernel) (by decide +kernel), TW_of (i := 2126) (by decide +kernel) (by decide +kernel), sl_J5_newCapacity_0f7a4, im_J5_newCapacity_0f7a4, rfl, lb_J5_newCapacity_0f7a4 _ _⟩
theorem sm_J7_copyOf_9075b : Cond.static m_J7_copyOf_9075b.1 ∈ TW := TW_of (i := 883) (by decide +kernel) (by decide +kernel)
theorem iw_J7 : Cond.initialized "java/util/Arrays" ∈ TW := TW_of (i := 103) (by decide +kernel) (by decide +kernel)
theorem lb_J7_copyOf_9075b : ∀ (own : String) (idx : Nat), LkB own idx m_J7_copyOf_9075b 2 := fun _ _ => ⟨iw_J7, TW_of (i := 884) (by decide +kernel) (by decide +kernel), ⟨by decide +kernel, by decide +kernel⟩, by decide +kernel, by decide⟩
theorem lk_J5_108 : LkS "java/lang/AbstractStringBuilder" 108 m_J7_copyOf_9075b 2 := ⟨TW_of (i := 882) (by decide +kernel) (by decide +kernel), sm_J7_copyOf_9075b, lb_J7_copyOf_9075b _ _⟩
theorem sm_J8_newLength_cabcc : Cond.static m_J8_newLength_cabcc.1 ∈ TW := TW_of (i := 874) (by decide +kernel) (by decide +kernel)
theorem iw_J8 : Cond.initialized "jdk/internal/util/ArraysSupport" ∈ TW := TW_of (i := 102) (by decide +kernel) (by decide +kernel)
theorem lb_J8_newLength_cabcc : ∀ (own : String) (idx : Nat), LkB own idx m_J8_newLength_cabcc 3 := fun _ _ => ⟨iw_J8, TW_of (i := 875) (by decide +kernel) (by decide +kernel), ⟨by decide +kernel, by decide +kernel⟩, by decide +kernel, by decide⟩
theorem lk_J5_114 : LkS "java/lang/AbstractStringBuilder" 114 m_J8_newLength_cabcc 3 := ⟨TW_of (i := 873) (by decide +kernel) (by decide +kernel), sm_J8_newLength_cabcc, lb_J8_newLength_cabcc _ _⟩
theorem kc_J5_39 : Cond.constant "java/lang/AbstractStringBuilder" 39 2147483647 ∈ TW := TW_of (i := 881) (by decide +kernel) (by decide +kernel)
theorem im_J5_isLatin1_aae02 : Cond.instanceMethod m_J5_isLatin1_aae02.1 ∈ TW := TW_of (i := 897) (by decide +kernel) (by decide +kernel)
theorem lb_J5_isLatin1_aae02 : ∀ (own : String) (idx : Nat), LkB own idx m_J5_isLatin1_aae02 0 := fun _ _ => ⟨iw_J5, TW_of (i := 900) (by decide +kernel) (by decide +kernel), ⟨by decide +kernel, by decide +kernel⟩, by decide +kernel, by decide⟩
theorem lk_J5_83 : LkU "java/lang/AbstractStringBuilder" 83 "java/lang/StringBuilder" "java/lang/AbstractStringBuilder" ⟨"java/lang/AbstractStringBuilder", "isLatin1", "()Z"⟩ m_J5_isLatin1_aae02 0 := ⟨TW_of (i := 896) (by decide +kernel) (by decide +kernel), TW_of (i := 898) (by decide +kernel) (by decide +kernel), TW_of (i := 899) (by decide +kernel) (by decide +kernel), im_J5_isLatin1_aae02, rfl, lb_J5_isLatin1_aae02 _ _⟩
theorem sm_J1_inflate_0e8fd : Cond.static m_J1_inflate_0e8fd.1 ∈ TW := TW_of (i := 950) (by decide +kernel) (by decide +kernel)
theorem iw_J1 : Cond.initialized "java/lang/StringLatin1" ∈ TW := TW_of (i := 106) (by decide +kernel) (by decide +kernel)
theorem lb_J1_inflate_0e8fd : ∀ (own : String) (idx : Nat), LkB own idx m_J1_inflate_0e8fd 5 := fun _ _ => ⟨iw_J1, TW_of (i := 951) (by decide +kernel) (by decide +kernel), ⟨by decide +kernel, by decide +kernel⟩, by decide +kernel, by decide⟩
theorem lk_J5_125 : LkS "java/lang/AbstractStringBuilder" 125 m_J1_inflate_0e8fd 5 := ⟨TW_of (i := 949) (by decide +kernel) (by decide +kernel), sm_J1_inflate_0e8fd, lb_J1_inflate_0e8fd _ _⟩
theorem im_Jx7c733_init_d00df : Cond.instanceMethod m_Jx7c733_init_d00df.1 ∈ TW := TW_of (i := 849) (by decide +kernel) (by decide +kernel)
theorem iw_Jx7c733 : Cond.initialized "java/lang/StringIndexOutOfBoundsException" ∈ TW := TW_of (i := 101) (by decide +kernel) (by decide +kernel)
theorem lb_Jx7c733_init_d00df : ∀ (own : String) (idx : Nat), LkB own idx m_Jx7c733_init_d00df 1 := fun _ _ => ⟨iw_Jx7c733, TW_of (i := 850) (by decide +kernel) (by decide +kernel), ⟨by decide +kernel, by decide +kernel⟩, by decide +kernel, by decide⟩
theorem lk_J5_131 : LkI "java/lang/AbstractStringBuilder" 131 m_Jx7c733_init_d00df 1 := ⟨TW_of (i := 848) (by decide +kernel) (by decide +kernel), im_Jx7c733_init_d00df, rfl, rfl, lb_Jx7c733_init_d00df _ _⟩
theorem sl_J5_ensureCapacityInternal_d00df : Cond.selects "java/lang/StringBuilder" m_J5_ensureCapacityInternal_d00df.1 m_J5_ensureCapacityInternal_d00df.1 ∈ TW := TW_of2 (i := 0) (by decide +kernel) (by decide +kernel)
theorem im_J5_ensureCapacityInternal_d00df : Cond.instanceMethod m_J5_ensureCapacityInternal_d00df.1 ∈ TW := TW_of (i := 867) (by decide +kernel) (by decide +kernel)
theorem lb_J5_ensureCapacityInternal_d00df : ∀ (own : String) (idx : Nat), LkB own idx m_J5_ensureCapacityInternal_d00df 1 := fun _ _ => ⟨iw_J5, TW_of (i := 868) (by decide +kernel) (by decide +kernel), ⟨by decide +kernel, by decide +kernel⟩, by decide +kernel, by decide⟩
theorem lk_J5_100 : LkU "java/lang/AbstractStringBuilder" 100 "java/lang/StringBuilder" "java/lang/AbstractStringBuilder" ⟨"java/lang/AbstractStringBuilder", "ensureCapacityInternal", "(I)V"⟩ m_J5_ensureCapacityInternal_d00df 1 := ⟨TW_of (i := 865) (by decide +kernel) (by decide +kernel), TW_of (i := 2125) (by decide +kernel) (by decide +kernel), sl_J5_ensureCapacityInternal_d00df, im_J5_ensureCapacityInternal_d00df, rfl, lb_J5_ensureCapacityInternal_d00df _ _⟩
theorem sm_J1_fillNull_b72d1 : Cond.static m_J1_fillNull_b72d1.1 ∈ TW := TW_of (i := 1072) (by decide +kernel) (by decide +kernel)
theorem lb_J1_fillNull_b72d1 : ∀ (own : String) (idx : Nat), LkB own idx m_J1_fillNull_b72d1 3 := fun _ _ => ⟨iw_J1, TW_of (i := 1073) (by decide +kernel) (by decide +kernel), ⟨by decide +kernel, by decide +kernel⟩, by decide +kernel, by decide⟩
theorem lk_J5_133 : LkS "java/lang/AbstractStringBuilder" 133 m_J1_fillNull_b72d1 3 := ⟨TW_of (i := 1071) (by decide +kernel) (by decide +kernel), sm_J1_fillNull_b72d1, lb_J1_fillNull_b72d1 _ _⟩
theorem sm_J2_fillNull_b72d1 : Cond.static m_J2_fillNull_b72d1.1 ∈ TW := TW_of (i := 1107) (by decide +kernel) (by decide +kernel)
theorem lb_J2_fillNull_b72d1 : ∀ (own : String) (idx : Nat), LkB own idx m_J2_fillNull_b72d1 3 := fun _ _ => ⟨iw_J2, TW_of (i := 1108) (by decide +kernel) (by decide +kernel), ⟨by decide +kernel, by decide +kernel⟩, by decide +kernel, by decide⟩
theorem lk_J5_137 : LkS "java/lang/AbstractStringBuilder" 137 m_J2_fillNull_b72d1 3 := ⟨TW_of (i := 1106) (by decide +kernel) (by decide +kernel), sm_J2_fillNull_b72d1, lb_J2_fillNull_b72d1 _ _⟩
theorem pf_J5_73 : PF "java/lang/AbstractStringBuilder" 73 1 2 .boolean := ⟨_, rfl, by decide, by decide, TW_of (i := 332) (by decide +kernel) (by decide +kernel), rfl, by decide +kernel⟩
theorem pf_J5_79 : PF "java/lang/AbstractStringBuilder" 79 1 3 .int := ⟨_, rfl, by decide, by decide, TW_of (i := 334) (by decide +kernel) (by decide +kernel), rfl, by decide +kernel⟩
theorem mm_J5_138 : Cond.methodLink "java/lang/AbstractStringBuilder" 138 Lib.Math.min.name ∈ TW := TW_of (i := 1504) (by decide +kernel) (by decide +kernel)
theorem sm_J0_checkIndex_df160 : Cond.static m_J0_checkIndex_df160.1 ∈ TW := TW_of (i := 1131) (by decide +kernel) (by decide +kernel)
theorem lb_J0_checkIndex_df160 : ∀ (own : String) (idx : Nat), LkB own idx m_J0_checkIndex_df160 2 := fun _ _ => ⟨iw_J0, TW_of (i := 1132) (by decide +kernel) (by decide +kernel), ⟨by decide +kernel, by decide +kernel⟩, by decide +kernel, by decide⟩
theorem lk_J5_144 : LkS "java/lang/AbstractStringBuilder" 144 m_J0_checkIndex_df160 2 := ⟨TW_of (i := 1505) (by decide +kernel) (by decide +kernel), sm_J0_checkIndex_df160, lb_J0_checkIndex_df160 _ _⟩
theorem sm_J2_getChar_3b067 : Cond.static m_J2_getChar_3b067.1 ∈ TW := TW_of (i := 1046) (by decide +kernel) (by decide +kernel)
theorem lb_J2_getChar_3b067 : ∀ (own : String) (idx : Nat), LkB own idx m_J2_getChar_3b067 2 := fun _ _ => ⟨iw_J2, TW_of (i := 1047) (by decide +kernel) (by decide +kernel), ⟨by decide +kernel, by decide +kernel⟩, by decide +kernel, by decide⟩
theorem lk_J5_148 : LkS "java/lang/AbstractStringBuilder" 148 m_J2_getChar_3b067 2 := ⟨TW_of (i := 1506) (by decide +kernel) (by decide +kernel), sm_J2_getChar_3b067, lb_J2_getChar_3b067 _ _⟩
theorem sl_J5_appendNull_278bc : Cond.selects "java/lang/StringBuilder" m_J5_appendNull_278bc.1 m_J5_appendNull_278bc.1 ∈ TW := TW_of2 (i := 5) (by decide +kernel) (by decide +kernel)
theorem im_J5_appendNull_278bc : Cond.instanceMethod m_J5_appendNull_278bc.1 ∈ TW := TW_of (i := 863) (by decide +kernel) (by decide +kernel)
theorem lb_J5_appendNull_278bc : ∀ (own : String) (idx : Nat), LkB own idx m_J5_appendNull_278bc 0 := fun _ _ => ⟨iw_J5, TW_of (i := 864) (by decide +kernel) (by decide +kernel), ⟨by decide +kernel, by decide +kernel⟩, by decide +kernel, by decide⟩
theorem lk_J5_204 : LkU "java/lang/AbstractStringBuilder" 204 "java/lang/StringBuilder" "java/lang/AbstractStringBuilder" ⟨"java/lang/AbstractStringBuilder", "appendNull", "()Ljava/lang/AbstractStringBuilder;"⟩ m_J5_appendNull_278bc 0 := ⟨TW_of (i := 861) (by decide +kernel) (by decide +kernel), TW_of (i := 2124) (by decide +kernel) (by decide +kernel), sl_J5_appendNull_278bc, im_J5_appendNull_278bc, rfl, lb_J5_appendNull_278bc _ _⟩
theorem lk_J5_32 : LkV "java/lang/AbstractStringBuilder" 32 "java/lang/String" m_J0_length_8abf5 0 := ⟨TW_of (i := 927) (by decide +kernel) (by decide +kernel), im_J0_length_8abf5, sl_J0_length_8abf5, lb_J0_length_8abf5 _ _⟩
theorem sl_J5_putStringAt_47b60 : Cond.selects "java/lang/StringBuilder" m_J5_putStringAt_47b60.1 m_J5_putStringAt_47b60.1 ∈ TW := TW_of2 (i := 2) (by decide +kernel) (by decide +kernel)
theorem im_J5_putStringAt_47b60 : Cond.instanceMethod m_J5_putStringAt_47b60.1 ∈ TW := TW_of (i := 938) (by decide +kernel) (by decide +kernel)
theorem lb_J5_putStringAt_47b60 : ∀ (own : String) (idx : Nat), LkB own idx m_J5_putStringAt_47b60 2 := fun _ _ => ⟨iw_J5, TW_of (i := 939) (by decide +kernel) (by decide +kernel), ⟨by decide +kernel, by decide +kernel⟩, by decide +kernel, by decide⟩
theorem lk_J5_208 : LkU "java/lang/AbstractStringBuilder" 208 "java/lang/StringBuilder" "java/lang/AbstractStringBuilder" ⟨"java/lang/AbstractStringBuilder", "putStringAt", "(ILjava/lang/String;)V"⟩ m_J5_putStringAt_47b60 2 := ⟨TW_of (i := 936) (by decide +kernel) (by decide +kernel), TW_of (i := 2127) (by decide +kernel) (by decide +kernel), sl_J5_putStringAt_47b60, im_J5_putStringAt_47b60, rfl, lb_J5_putStringAt_47b60 _ _⟩
theorem sm_J2_putCharsAt_cd4e5 : Cond.static m_J2_putCharsAt_cd4e5.1 ∈ TW := TW_of (i := 902) (by decide +kernel) (by decide +kernel)
theorem lb_J2_putCharsAt_cd4e5 : ∀ (own : String) (idx : Nat), LkB own idx m_J2_putCharsAt_cd4e5 6 := fun _ _ => ⟨iw_J2, TW_of (i := 903) (by decide +kernel) (by decide +kernel), ⟨by decide +kernel, by decide +kernel⟩, by decide +kernel, by decide⟩
theorem lk_J5_226 : LkS "java/lang/AbstractStringBuilder" 226 m_J2_putCharsAt_cd4e5 6 := ⟨TW_of (i := 901) (by decide +kernel) (by decide +kernel), sm_J2_putCharsAt_cd4e5, lb_J2_putCharsAt_cd4e5 _ _⟩
theorem sm_J1_canEncode_fc78d : Cond.static m_J1_canEncode_fc78d.1 ∈ TW := TW_of (i := 1122) (by decide +kernel) (by decide +kernel)
theorem lb_J1_canEncode_fc78d : ∀ (own : String) (idx : Nat), LkB own idx m_J1_canEncode_fc78d 1 := fun _ _ => ⟨iw_J1, TW_of (i := 1123) (by decide +kernel) (by decide +kernel), ⟨by decide +kernel, by decide +kernel⟩, by decide +kernel, by decide⟩
theorem lk_J5_191 : LkS "java/lang/AbstractStringBuilder" 191 m_J1_canEncode_fc78d 1 := ⟨TW_of (i := 1121) (by decide +kernel) (by decide +kernel), sm_J1_canEncode_fc78d, lb_J1_canEncode_fc78d _ _⟩
theorem sl_J5_inflate_da8c8 : Cond.selects "java/lang/StringBuilder" m_J5_inflate_da8c8.1 m_J5_inflate_da8c8.1 ∈ TW := TW_of2 (i := 4) (by decide +kernel) (by decide +kernel)
theorem im_J5_inflate_da8c8 : Cond.instanceMethod m_J5_inflate_da8c8.1 ∈ TW := TW_of (i := 947) (by decide +kernel) (by decide +kernel)
theorem lb_J5_inflate_da8c8 : ∀ (own : String) (idx : Nat), LkB own idx m_J5_inflate_da8c8 0 := fun _ _ => ⟨iw_J5, TW_of (i := 948) (by decide +kernel) (by decide +kernel), ⟨by decide +kernel, by decide +kernel⟩, by decide +kernel, by decide⟩
theorem lk_J5_195 : LkU "java/lang/AbstractStringBuilder" 195 "java/lang/StringBuilder" "java/lang/AbstractStringBuilder" ⟨"java/lang/AbstractStringBuilder", "inflate", "()V"⟩ m_J5_inflate_da8c8 0 := ⟨TW_of (i := 945) (by decide +kernel) (by decide +kernel), TW_of (i := 2129) (by decide +kernel) (by decide +kernel), sl_J5_inflate_da8c8, im_J5_inflate_da8c8, rfl, lb_J5_inflate_da8c8 _ _⟩
theorem sm_J2_putCharSB_b72d1 : Cond.static m_J2_putCharSB_b72d1.1 ∈ TW := TW_of (i := 1125) (by decide +kernel) (by decide +kernel)
theorem lb_J2_putCharSB_b72d1 : ∀ (own : String) (idx : Nat), LkB own idx m_J2_putCharSB_b72d1 3 := fun _ _ => ⟨iw_J2, TW_of (i := 1126) (by decide +kernel) (by decide +kernel), ⟨by decide +kernel, by decide +kernel⟩, by decide +kernel, by decide⟩
theorem lk_J5_197 : LkS "java/lang/AbstractStringBuilder" 197 m_J2_putCharSB_b72d1 3 := ⟨TW_of (i := 1124) (by decide +kernel) (by decide +kernel), sm_J2_putCharSB_b72d1, lb_J2_putCharSB_b72d1 _ _⟩
theorem sm_J6_stringSize_0f7a4 : Cond.static m_J6_stringSize_0f7a4.1 ∈ TW := TW_of (i := 978) (by decide +kernel) (by decide +kernel)
theorem iw_J6 : Cond.initialized "java/lang/Integer" ∈ TW := TW_of (i := 107) (by decide +kernel) (by decide +kernel)
theorem lb_J6_stringSize_0f7a4 : ∀ (own : String) (idx : Nat), LkB own idx m_J6_stringSize_0f7a4 1 := fun _ _ => ⟨iw_J6, TW_of (i := 979) (by decide +kernel) (by decide +kernel), ⟨by decide +kernel, by decide +kernel⟩, by decide +kernel, by decide⟩
theorem lk_J5_245 : LkS "java/lang/AbstractStringBuilder" 245 m_J6_stringSize_0f7a4 1 := ⟨TW_of (i := 977) (by decide +kernel) (by decide +kernel), sm_J6_stringSize_0f7a4, lb_J6_stringSize_0f7a4 _ _⟩
theorem sm_J6_getChars_ba4f3 : Cond.static m_J6_getChars_ba4f3.1 ∈ TW := TW_of (i := 981) (by decide +kernel) (by decide +kernel)
theorem lb_J6_getChars_ba4f3 : ∀ (own : String) (idx : Nat), LkB own idx m_J6_getChars_ba4f3 3 := fun _ _ => ⟨iw_J6, TW_of (i := 982) (by decide +kernel) (by decide +kernel), ⟨by decide +kernel, by decide +kernel⟩, by decide +kernel, by decide⟩
theorem lk_J5_248 : LkS "java/lang/AbstractStringBuilder" 248 m_J6_getChars_ba4f3 3 := ⟨TW_of (i := 980) (by decide +kernel) (by decide +kernel), sm_J6_getChars_ba4f3, lb_J6_getChars_ba4f3 _ _⟩
theorem sm_J2_getChars_46870 : Cond.static m_J2_getChars_46870.1 ∈ TW := TW_of (i := 988) (by decide +kernel) (by decide +kernel)
theorem lb_J2_getChars_46870 : ∀ (own : String) (idx : Nat), LkB own idx m_J2_getChars_46870 4 := fun _ _ => ⟨iw_J2, TW_of (i := 989) (by decide +kernel) (by decide +kernel), ⟨by decide +kernel, by decide +kernel⟩, by decide +kernel, by decide⟩
theorem lk_J5_251 : LkS "java/lang/AbstractStringBuilder" 251 m_J2_getChars_46870 4 := ⟨TW_of (i := 987) (by decide +kernel) (by decide +kernel), sm_J2_getChars_46870, lb_J2_getChars_46870 _ _⟩
theorem im_J0_coder_7d493 : Cond.instanceMethod m_J0_coder_7d493.1 ∈ TW := TW_of (i := 932) (by decide +kernel) (by decide +kernel)
theorem sl_J0_coder_7d493 : Cond.selects "java/lang/String" m_J0_coder_7d493.1 m_J0_coder_7d493.1 ∈ TW := TW_of (i := 933) (by decide +kernel) (by decide +kernel)
theorem lb_J0_coder_7d493 : ∀ (own : String) (idx : Nat), LkB own idx m_J0_coder_7d493 0 := fun _ _ => ⟨iw_J0, TW_of (i := 934) (by decide +kernel) (by decide +kernel), ⟨by decide +kernel, by decide +kernel⟩, by decide +kernel, by decide⟩
theorem lk_J5_40 : LkV "java/lang/AbstractStringBuilder" 40 "java/lang/String" m_J0_coder_7d493 0 := ⟨TW_of (i := 944) (by decide +kernel) (by decide +kernel), im_J0_coder_7d493, sl_J0_coder_7d493, lb_J0_coder_7d493 _ _⟩
theorem sl_J5_inflateIfNeededFor_a7421 : Cond.selects "java/lang/StringBuilder" m_J5_inflateIfNeededFor_a7421.1 m_J5_inflateIfNeededFor_a7421.1 ∈ TW := TW_of2 (i := 3) (by decide +kernel) (by decide +kernel)
theorem im_J5_inflateIfNeededFor_a7421 : Cond.instanceMethod m_J5_inflateIfNeededFor_a7421.1 ∈ TW := TW_of (i := 942) (by decide +kernel) (by decide +kernel)
theorem lb_J5_inflateIfNeededFor_a7421 : ∀ (own : String) (idx : Nat), LkB own idx m_J5_inflateIfNeededFor_a7421 1 := fun _ _ => ⟨iw_J5, TW_of (i := 943) (by decide +kernel) (by decide +kernel), ⟨by decide +kernel, by decide +kernel⟩, by decide +kernel, by decide⟩
theorem lk_J5_397 : LkU "java/lang/AbstractStringBuilder" 397 "java/lang/StringBuilder" "java/lang/AbstractStringBuilder" ⟨"java/lang/AbstractStringBuilder", "inflateIfNeededFor", "(Ljava/lang/String;)V"⟩ m_J5_inflateIfNeededFor_a7421 1 := ⟨TW_of (i := 940) (by decide +kernel) (by decide +kernel), TW_of (i := 2128) (by decide +kernel) (by decide +kernel), sl_J5_inflateIfNeededFor_a7421, im_J5_inflateIfNeededFor_a7421, rfl, lb_J5_inflateIfNeededFor_a7421 _ _⟩
theorem im_J0_getBytes_840e7 : Cond.instanceMethod m_J0_getBytes_840e7.1 ∈ TW := TW_of (i := 965) (by decide +kernel) (by decide +kernel)
theorem sl_J0_getBytes_840e7 : Cond.selects "java/lang/String" m_J0_getBytes_840e7.1 m_J0_getBytes_840e7.1 ∈ TW := TW_of (i := 966) (by decide +kernel) (by decide +kernel)
theorem lb_J0_getBytes_840e7 : ∀ (own : String) (idx : Nat), LkB own idx m_J0_getBytes_840e7 3 := fun _ _ => ⟨iw_J0, TW_of (i := 967) (by decide +kernel) (by decide +kernel), ⟨by decide +kernel, by decide +kernel⟩, by decide +kernel, by decide⟩
theorem lk_J5_399 : LkV "java/lang/AbstractStringBuilder" 399 "java/lang/String" m_J0_getBytes_840e7 3 := ⟨TW_of (i := 964) (by decide +kernel) (by decide +kernel), im_J0_getBytes_840e7, sl_J0_getBytes_840e7, lb_J0_getBytes_840e7 _ _⟩
theorem nw_Jx00060_10 : NW "java/lang/ArrayIndexOutOfBoundsException" 10 1 4 := ⟨_, rfl, by decide, rfl, TW_of (i := 1097) (by decide +kernel) (by decide +kernel), TW_of (i := 313) (by decide +kernel) (by decide +kernel), TW_of (i := 81) (by decide +kernel) (by decide +kernel), nw_def 1 4 (by decide +kernel)⟩
theorem lk_Jx00060_12 : LkI "java/lang/ArrayIndexOutOfBoundsException" 12 m_J4_init_da8c8 0 := ⟨TW_of (i := 1098) (by decide +kernel) (by decide +kernel), im_J4_init_da8c8, rfl, rfl, lb_J4_init_da8c8 _ _⟩
theorem lk_Jx00060_15 : LkV "java/lang/ArrayIndexOutOfBoundsException" 15 "java/lang/StringBuilder" m_J4_append_15ec4 1 := ⟨TW_of (i := 1100) (by decide +kernel) (by decide +kernel), im_J4_append_15ec4, sl_J4_append_15ec4, lb_J4_append_15ec4 _ _⟩
theorem lk_Jx00060_19 : LkV "java/lang/ArrayIndexOutOfBoundsException" 19 "java/lang/StringBuilder" m_J4_append_bf812 1 := ⟨TW_of (i := 1101) (by decide +kernel) (by decide +kernel), im_J4_append_bf812, sl_J4_append_bf812, lb_J4_append_bf812 _ _⟩
theorem im_J4_toString_0e30d : Cond.instanceMethod m_J4_toString_0e30d.1 ∈ TW := TW_of (i := 996) (by decide +kernel) (by decide +kernel)
theorem sl_J4_toString_0e30d : Cond.selects "java/lang/StringBuilder" m_J4_toString_0e30d.1 m_J4_toString_0e30d.1 ∈ TW := TW_of (i := 997) (by decide +kernel) (by decide +kernel)
theorem lb_J4_toString_0e30d : ∀ (own : String) (idx : Nat), LkB own idx m_J4_toString_0e30d 0 := fun _ _ => ⟨iw_J4, TW_of (i := 998) (by decide +kernel) (by decide +kernel), ⟨by decide +kernel, by decide +kernel⟩, by decide +kernel, by decide⟩
theorem lk_Jx00060_22 : LkV "java/lang/ArrayIndexOutOfBoundsException" 22 "java/lang/StringBuilder" m_J4_toString_0e30d 0 := ⟨TW_of (i := 1102) (by decide +kernel) (by decide +kernel), im_J4_toString_0e30d, sl_J4_toString_0e30d, lb_J4_toString_0e30d _ _⟩
theorem gc_Jx29ce0_7 : Cond.fieldLink "java/lang/Enum" 7 "java/lang/Enum" "ordinal" "I" ∈ TW := TW_of (i := 2155) (by decide +kernel) (by decide +kernel)
theorem sm_Jxf58ca_isNaN_12338 : Cond.static m_Jxf58ca_isNaN_12338.1 ∈ TW := TW_of (i := 1877) (by decide +kernel) (by decide +kernel)
theorem lb_Jxf58ca_isNaN_12338 : ∀ (own : String) (idx : Nat), LkB own idx m_Jxf58ca_isNaN_12338 1 := fun _ _ => ⟨iw_Jxf58ca, TW_of (i := 1878) (by decide +kernel) (by decide +kernel), ⟨by decide +kernel, by decide +kernel⟩, by decide +kernel, by decide⟩
theorem lk_Jxf58ca_59 : LkS "java/lang/Float" 59 m_Jxf58ca_isNaN_12338 1 := ⟨TW_of (i := 1876) (by decide +kernel) (by decide +kernel), sm_Jxf58ca_isNaN_12338, lb_Jxf58ca_isNaN_12338 _ _⟩
theorem kc_Jxf58ca_77 : Cond.constant "java/lang/Float" 77 2143289344 ∈ TW := TW_of (i := 1882) (by decide +kernel) (by decide +kernel)
theorem gs_J6_83 : Cond.fieldLink "java/lang/Integer" 83 "java/lang/Integer" "DigitOnes" "[B" ∈ TW := TW_of (i := 983) (by decide +kernel) (by decide +kernel)
theorem gs_J6_87 : Cond.fieldLink "java/lang/Integer" 87 "java/lang/Integer" "DigitTens" "[B" ∈ TW := TW_of (i := 985) (by decide +kernel) (by decide +kernel)
theorem im_J0_init_db425 : Cond.instanceMethod m_J0_init_db425.1 ∈ TW := TW_of (i := 1005) (by decide +kernel) (by decide +kernel)
theorem lb_J0_init_db425 : ∀ (own : String) (idx : Nat), LkB own idx m_J0_init_db425 2 := fun _ _ => ⟨iw_J0, TW_of (i := 1006) (by decide +kernel) (by decide +kernel), ⟨by decide +kernel, by decide +kernel⟩, by decide +kernel, by decide⟩
theorem lk_J0_489 : LkI "java/lang/String" 489 m_J0_init_db425 2 := ⟨TW_of (i := 1004) (by decide +kernel) (by decide +kernel), im_J0_init_db425, rfl, rfl, lb_J0_init_db425 _ _⟩
theorem gc_J0_9 : Cond.fieldLink "java/lang/String" 9 "java/lang/String" "value" "[B" ∈ TW := TW_of (i := 1052) (by decide +kernel) (by decide +kernel)
theorem lk_J0_335 : LkV "java/lang/String" 335 "java/lang/String" m_J0_coder_7d493 0 := ⟨TW_of (i := 931) (by decide +kernel) (by decide +kernel), im_J0_coder_7d493, sl_J0_coder_7d493, lb_J0_coder_7d493 _ _⟩
theorem im_J0_isLatin1_aae02 : Cond.instanceMethod m_J0_isLatin1_aae02.1 ∈ TW := TW_of (i := 1551) (by decide +kernel) (by decide +kernel)
theorem sl_J0_isLatin1_aae02 : Cond.selects "java/lang/String" m_J0_isLatin1_aae02.1 m_J0_isLatin1_aae02.1 ∈ TW := TW_of (i := 1552) (by decide +kernel) (by decide +kernel)
theorem lb_J0_isLatin1_aae02 : ∀ (own : String) (idx : Nat), LkB own idx m_J0_isLatin1_aae02 0 := fun _ _ => ⟨iw_J0, TW_of (i := 1553) (by decide +kernel) (by decide +kernel), ⟨by decide +kernel, by decide +kernel⟩, by decide +kernel, by decide⟩
theorem lk_J0_492 : LkV "java/lang/String" 492 "java/lang/String" m_J0_isLatin1_aae02 0 := ⟨TW_of (i := 1550) (by decide +kernel) (by decide +kernel), im_J0_isLatin1_aae02, sl_J0_isLatin1_aae02, lb_J0_isLatin1_aae02 _ _⟩
theorem sm_J1_charAt_3b067 : Cond.static m_J1_charAt_3b067.1 ∈ TW := TW_of (i := 1555) (by decide +kernel) (by decide +kernel)
theorem lb_J1_charAt_3b067 : ∀ (own : String) (idx : Nat), LkB own idx m_J1_charAt_3b067 2 := fun _ _ => ⟨iw_J1, TW_of (i := 1556) (by decide +kernel) (by decide +kernel), ⟨by decide +kernel, by decide +kernel⟩, by decide +kernel, by decide⟩
theorem lk_J0_495 : LkS "java/lang/String" 495 m_J1_charAt_3b067 2 := ⟨TW_of (i := 1554) (by decide +kernel) (by decide +kernel), sm_J1_charAt_3b067, lb_J1_charAt_3b067 _ _⟩
theorem sm_J2_charAt_3b067 : Cond.static m_J2_charAt_3b067.1 ∈ TW := TW_of (i := 1559) (by decide +kernel) (by decide +kernel)
theorem lb_J2_charAt_3b067 : ∀ (own : String) (idx : Nat), LkB own idx m_J2_charAt_3b067 2 := fun _ _ => ⟨iw_J2, TW_of (i := 1560) (by decide +kernel) (by decide +kernel), ⟨by decide +kernel, by decide +kernel⟩, by decide +kernel, by decide⟩
theorem lk_J0_498 : LkS "java/lang/String" 498 m_J2_charAt_3b067 2 := ⟨TW_of (i := 1558) (by decide +kernel) (by decide +kernel), sm_J2_charAt_3b067, lb_J2_charAt_3b067 _ _⟩
theorem lk_J0_106 : LkS "java/lang/String" 106 m_J1_inflate_0e8fd 5 := ⟨TW_of (i := 969) (by decide +kernel) (by decide +kernel), sm_J1_inflate_0e8fd, lb_J1_inflate_0e8fd _ _⟩
theorem oi_J0_1 : Cond.methodLink "java/lang/String" 1 Lib.objectInit ∈ TW := TW_of (i := 1007) (by decide +kernel) (by decide +kernel)
theorem im_J5_getValue_6d5f1 : Cond.instanceMethod m_J5_getValue_6d5f1.1 ∈ TW := TW_of (i := 1009) (by decide +kernel) (by decide +kernel)
theorem lb_J5_getValue_6d5f1 : ∀ (own : String) (idx : Nat), LkB own idx m_J5_getValue_6d5f1 0 := fun _ _ => ⟨iw_J5, TW_of (i := 1012) (by decide +kernel) (by decide +kernel), ⟨by decide +kernel, by decide +kernel⟩, by decide +kernel, by decide⟩
theorem lk_J0_552 : LkU "java/lang/String" 552 "java/lang/StringBuilder" "java/lang/AbstractStringBuilder" ⟨"java/lang/AbstractStringBuilder", "getValue", "()[B"⟩ m_J5_getValue_6d5f1 0 := ⟨TW_of (i := 1008) (by decide +kernel) (by decide +kernel), TW_of (i := 1010) (by decide +kernel) (by decide +kernel), TW_of (i := 1011) (by decide +kernel) (by decide +kernel), im_J5_getValue_6d5f1, rfl, lb_J5_getValue_6d5f1 _ _⟩
theorem lk_J0_1047 : LkU "java/lang/String" 1047 "java/lang/StringBuilder" "java/lang/AbstractStringBuilder" ⟨"java/lang/AbstractStringBuilder", "isLatin1", "()Z"⟩ m_J5_isLatin1_aae02 0 := ⟨TW_of (i := 1021) (by decide +kernel) (by decide +kernel), TW_of (i := 898) (by decide +kernel) (by decide +kernel), TW_of (i := 899) (by decide +kernel) (by decide +kernel), im_J5_isLatin1_aae02, rfl, lb_J5_isLatin1_aae02 _ _⟩
theorem ff_J0_15 : FF "java/lang/String" 15 0 1 .byte := ⟨_, rfl, by decide, by decide, TW_of (i := 1053) (by decide +kernel) (by decide +kernel), rfl, by decide +kernel, rfl⟩
theorem sm_J7_copyOfRange_39247 : Cond.static m_J7_copyOfRange_39247.1 ∈ TW := TW_of (i := 1023) (by decide +kernel) (by decide +kernel)
theorem lb_J7_copyOfRange_39247 : ∀ (own : String) (idx : Nat), LkB own idx m_J7_copyOfRange_39247 3 := fun _ _ => ⟨iw_J7, TW_of (i := 1024) (by decide +kernel) (by decide +kernel), ⟨by decide +kernel, by decide +kernel⟩, by decide +kernel, by decide⟩
theorem lk_J0_54 : LkS "java/lang/String" 54 m_J7_copyOfRange_39247 3 := ⟨TW_of (i := 1022) (by decide +kernel) (by decide +kernel), sm_J7_copyOfRange_39247, lb_J7_copyOfRange_39247 _ _⟩
theorem ff_J0_9 : FF "java/lang/String" 9 0 0 (.array .byte) := ⟨_, rfl, by decide, by decide, TW_of (i := 1052) (by decide +kernel) (by decide +kernel), rfl, by decide +kernel, rfl⟩
theorem gs_J0_38 : Cond.fieldLink "java/lang/String" 38 "java/lang/String" "COMPACT_STRINGS" "Z" ∈ TW := TW_of (i := 935) (by decide +kernel) (by decide +kernel)
theorem gf_J0_1048 : GF "java/lang/String" 1048 1 2 := ⟨_, rfl, by decide, by decide, TW_of (i := 333) (by decide +kernel) (by decide +kernel)⟩
theorem sm_J2_compress_39247 : Cond.static m_J2_compress_39247.1 ∈ TW := TW_of (i := 1040) (by decide +kernel) (by decide +kernel)
theorem lb_J2_compress_39247 : ∀ (own : String) (idx : Nat), LkB own idx m_J2_compress_39247 3 := fun _ _ => ⟨iw_J2, TW_of (i := 1041) (by decide +kernel) (by decide +kernel), ⟨by decide +kernel, by decide +kernel⟩, by decide +kernel, by decide⟩
theorem lk_J0_1051 : LkS "java/lang/String" 1051 m_J2_compress_39247 3 := ⟨TW_of (i := 1039) (by decide +kernel) (by decide +kernel), sm_J2_compress_39247, lb_J2_compress_39247 _ _⟩
theorem sm_J2_coderFromArrayLen_85cad : Cond.static m_J2_coderFromArrayLen_85cad.1 ∈ TW := TW_of (i := 1050) (by decide +kernel) (by decide +kernel)
theorem lb_J2_coderFromArrayLen_85cad : ∀ (own : String) (idx : Nat), LkB own idx m_J2_coderFromArrayLen_85cad 2 := fun _ _ => ⟨iw_J2, TW_of (i := 1051) (by decide +kernel) (by decide +kernel), ⟨by decide +kernel, by decide +kernel⟩, by decide +kernel, by decide⟩
theorem lk_J0_47 : LkS "java/lang/String" 47 m_J2_coderFromArrayLen_85cad 2 := ⟨TW_of (i := 1049) (by decide +kernel) (by decide +kernel), sm_J2_coderFromArrayLen_85cad, lb_J2_coderFromArrayLen_85cad _ _⟩
theorem gc_J0_15 : Cond.fieldLink "java/lang/String" 15 "java/lang/String" "coder" "B" ∈ TW := TW_of (i := 1053) (by decide +kernel) (by decide +kernel)
theorem gs_J0_1053 : Cond.fieldLink "java/lang/String" 1053 "jdk/internal/util/Preconditions" "SIOOBE_FORMATTER" "Ljava/util/function/BiFunction;" ∈ TW := TW_of (i := 913) (by decide +kernel) (by decide +kernel)
theorem sm_J3_checkIndex_8e157 : Cond.static m_J3_checkIndex_8e157.1 ∈ TW := TW_of (i := 1134) (by decide +kernel) (by decide +kernel)
theorem iw_J3 : Cond.initialized "jdk/internal/util/Preconditions" ∈ TW := TW_of (i := 105) (by decide +kernel) (by decide +kernel)
theorem lb_J3_checkIndex_8e157 : ∀ (own : String) (idx : Nat), LkB own idx m_J3_checkIndex_8e157 3 := fun _ _ => ⟨iw_J3, TW_of (i := 1135) (by decide +kernel) (by decide +kernel), ⟨by decide +kernel, by decide +kernel⟩, by decide +kernel, by decide⟩
theorem lk_J0_1059 : LkS "java/lang/String" 1059 m_J3_checkIndex_8e157 3 := ⟨TW_of (i := 1133) (by decide +kernel) (by decide +kernel), sm_J3_checkIndex_8e157, lb_J3_checkIndex_8e157 _ _⟩
theorem sm_J3_checkFromIndexSize_8c36e : Cond.static m_J3_checkFromIndexSize_8c36e.1 ∈ TW := TW_of (i := 962) (by decide +kernel) (by decide +kernel)
theorem lb_J3_checkFromIndexSize_8c36e : ∀ (own : String) (idx : Nat), LkB own idx m_J3_checkFromIndexSize_8c36e 4 := fun _ _ => ⟨iw_J3, TW_of (i := 963) (by decide +kernel) (by decide +kernel), ⟨by decide +kernel, by decide +kernel⟩, by decide +kernel, by decide⟩
theorem lk_J0_1065 : LkS "java/lang/String" 1065 m_J3_checkFromIndexSize_8c36e 4 := ⟨TW_of (i := 961) (by decide +kernel) (by decide +kernel), sm_J3_checkFromIndexSize_8c36e, lb_J3_checkFromIndexSize_8c36e _ _⟩
theorem sm_J3_checkFromToIndex_8c36e : Cond.static m_J3_checkFromToIndex_8c36e.1 ∈ TW := TW_of (i := 916) (by decide +kernel) (by decide +kernel)
theorem lb_J3_checkFromToIndex_8c36e : ∀ (own : String) (idx : Nat), LkB own idx m_J3_checkFromToIndex_8c36e 4 := fun _ _ => ⟨iw_J3, TW_of (i := 917) (by decide +kernel) (by decide +kernel), ⟨by decide +kernel, by decide +kernel⟩, by decide +kernel, by decide⟩
theorem lk_J0_1062 : LkS "java/lang/String" 1062 m_J3_checkFromToIndex_8c36e 4 := ⟨TW_of (i := 915) (by decide +kernel) (by decide +kernel), sm_J3_checkFromToIndex_8c36e, lb_J3_checkFromToIndex_8c36e _ _⟩
theorem im_J5_init_d00df : Cond.instanceMethod m_J5_init_d00df.1 ∈ TW := TW_of (i := 318) (by decide +kernel) (by decide +kernel)
theorem lb_J5_init_d00df : ∀ (own : String) (idx : Nat), LkB own idx m_J5_init_d00df 1 := fun _ _ => ⟨iw_J5, TW_of (i := 319) (by decide +kernel) (by decide +kernel), ⟨by decide +kernel, by decide +kernel⟩, by decide +kernel, by decide⟩
theorem lk_J4_1 : LkI "java/lang/StringBuilder" 1 m_J5_init_d00df 1 := ⟨TW_of (i := 317) (by decide +kernel) (by decide +kernel), im_J5_init_d00df, rfl, rfl, lb_J5_init_d00df _ _⟩
theorem im_J5_append_cf1ce : Cond.instanceMethod m_J5_append_cf1ce.1 ∈ TW := TW_of (i := 859) (by decide +kernel) (by decide +kernel)
theorem lb_J5_append_cf1ce : ∀ (own : String) (idx : Nat), LkB own idx m_J5_append_cf1ce 1 := fun _ _ => ⟨iw_J5, TW_of (i := 860) (by decide +kernel) (by decide +kernel), ⟨by decide +kernel, by decide +kernel⟩, by decide +kernel, by decide⟩
theorem lk_J4_29 : LkSU "java/lang/StringBuilder" 29 m_J5_append_cf1ce 1 := ⟨TW_of (i := 858) (by decide +kernel) (by decide +kernel), TW_of (i := 2123) (by decide +kernel) (by decide +kernel), TW_of (i := 343) (by decide +kernel) (by decide +kernel), im_J5_append_cf1ce, by decide +kernel, lb_J5_append_cf1ce _ _⟩
theorem im_J5_append_3fe6f : Cond.instanceMethod m_J5_append_3fe6f.1 ∈ TW := TW_of (i := 1119) (by decide +kernel) (by decide +kernel)
theorem lb_J5_append_3fe6f : ∀ (own : String) (idx : Nat), LkB own idx m_J5_append_3fe6f 1 := fun _ _ => ⟨iw_J5, TW_of (i := 1120) (by decide +kernel) (by decide +kernel), ⟨by decide +kernel, by decide +kernel⟩, by decide +kernel, by decide⟩
theorem lk_J4_50 : LkSU "java/lang/StringBuilder" 50 m_J5_append_3fe6f 1 := ⟨TW_of (i := 1118) (by decide +kernel) (by decide +kernel), TW_of (i := 2131) (by decide +kernel) (by decide +kernel), TW_of (i := 343) (by decide +kernel) (by decide +kernel), im_J5_append_3fe6f, by decide +kernel, lb_J5_append_3fe6f _ _⟩
theorem im_J5_append_c97b9 : Cond.instanceMethod m_J5_append_c97b9.1 ∈ TW := TW_of (i := 975) (by decide +kernel) (by decide +kernel)
theorem lb_J5_append_c97b9 : ∀ (own : String) (idx : Nat), LkB own idx m_J5_append_c97b9 1 := fun _ _ => ⟨iw_J5, TW_of (i := 976) (by decide +kernel) (by decide +kernel), ⟨by decide +kernel, by decide +kernel⟩, by decide +kernel, by decide⟩
theorem lk_J4_53 : LkSU "java/lang/StringBuilder" 53 m_J5_append_c97b9 1 := ⟨TW_of (i := 974) (by decide +kernel) (by decide +kernel), TW_of (i := 2130) (by decide +kernel) (by decide +kernel), TW_of (i := 343) (by decide +kernel) (by decide +kernel), im_J5_append_c97b9, by decide +kernel, lb_J5_append_c97b9 _ _⟩
theorem nw_J4_18 : NW "java/lang/StringBuilder" 18 0 4 := ⟨_, rfl, by decide, rfl, TW_of (i := 999) (by decide +kernel) (by decide +kernel), TW_of (i := 1000) (by decide +kernel) (by decide +kernel), TW_of (i := 82) (by decide +kernel) (by decide +kernel), nw_def 0 4 (by decide +kernel)⟩
theorem im_J0_init_81219 : Cond.instanceMethod m_J0_init_81219.1 ∈ TW := TW_of (i := 1002) (by decide +kernel) (by decide +kernel)
theorem lb_J0_init_81219 : ∀ (own : String) (idx : Nat), LkB own idx m_J0_init_81219 1 := fun _ _ => ⟨iw_J0, TW_of (i := 1003) (by decide +kernel) (by decide +kernel), ⟨by decide +kernel, by decide +kernel⟩, by decide +kernel, by decide⟩
theorem lk_J4_137 : LkI "java/lang/StringBuilder" 137 m_J0_init_81219 1 := ⟨TW_of (i := 1001) (by decide +kernel) (by decide +kernel), im_J0_init_81219, rfl, rfl, lb_J0_init_81219 _ _⟩
theorem im_J5_charAt_5068e : Cond.instanceMethod m_J5_charAt_5068e.1 ∈ TW := TW_of (i := 1502) (by decide +kernel) (by decide +kernel)
theorem lb_J5_charAt_5068e : ∀ (own : String) (idx : Nat), LkB own idx m_J5_charAt_5068e 1 := fun _ _ => ⟨iw_J5, TW_of (i := 1503) (by decide +kernel) (by decide +kernel), ⟨by decide +kernel, by decide +kernel⟩, by decide +kernel, by decide⟩
theorem lk_J4_329 : LkSU "java/lang/StringBuilder" 329 m_J5_charAt_5068e 1 := ⟨TW_of (i := 1501) (by decide +kernel) (by decide +kernel), TW_of (i := 2133) (by decide +kernel) (by decide +kernel), TW_of (i := 343) (by decide +kernel) (by decide +kernel), im_J5_charAt_5068e, by decide +kernel, lb_J5_charAt_5068e _ _⟩
theorem im_J5_setLength_d00df : Cond.instanceMethod m_J5_setLength_d00df.1 ∈ TW := TW_of (i := 844) (by decide +kernel) (by decide +kernel)
theorem lb_J5_setLength_d00df : ∀ (own : String) (idx : Nat), LkB own idx m_J5_setLength_d00df 1 := fun _ _ => ⟨iw_J5, TW_of (i := 845) (by decide +kernel) (by decide +kernel), ⟨by decide +kernel, by decide +kernel⟩, by decide +kernel, by decide⟩
theorem lk_J4_333 : LkSU "java/lang/StringBuilder" 333 m_J5_setLength_d00df 1 := ⟨TW_of (i := 843) (by decide +kernel) (by decide +kernel), TW_of (i := 2122) (by decide +kernel) (by decide +kernel), TW_of (i := 343) (by decide +kernel) (by decide +kernel), im_J5_setLength_d00df, by decide +kernel, lb_J5_setLength_d00df _ _⟩
theorem im_J5_length_8abf5 : Cond.instanceMethod m_J5_length_8abf5.1 ∈ TW := TW_of (i := 1014) (by decide +kernel) (by decide +kernel)
theorem lb_J5_length_8abf5 : ∀ (own : String) (idx : Nat), LkB own idx m_J5_length_8abf5 0 := fun _ _ => ⟨iw_J5, TW_of (i := 1020) (by decide +kernel) (by decide +kernel), ⟨by decide +kernel, by decide +kernel⟩, by decide +kernel, by decide⟩
theorem lk_J4_343 : LkSU "java/lang/StringBuilder" 343 m_J5_length_8abf5 0 := ⟨TW_of (i := 1019) (by decide +kernel) (by decide +kernel), TW_of (i := 1015) (by decide +kernel) (by decide +kernel), TW_of (i := 343) (by decide +kernel) (by decide +kernel), im_J5_length_8abf5, by decide +kernel, lb_J5_length_8abf5 _ _⟩
theorem nw_Jx7c733_10 : NW "java/lang/StringIndexOutOfBoundsException" 10 1 4 := ⟨_, rfl, by decide, rfl, TW_of (i := 851) (by decide +kernel) (by decide +kernel), TW_of (i := 313) (by decide +kernel) (by decide +kernel), TW_of (i := 81) (by decide +kernel) (by decide +kernel), nw_def 1 4 (by decide +kernel)⟩
theorem lk_Jx7c733_12 : LkI "java/lang/StringIndexOutOfBoundsException" 12 m_J4_init_da8c8 0 := ⟨TW_of (i := 852) (by decide +kernel) (by decide +kernel), im_J4_init_da8c8, rfl, rfl, lb_J4_init_da8c8 _ _⟩
theorem lk_Jx7c733_15 : LkV "java/lang/StringIndexOutOfBoundsException" 15 "java/lang/StringBuilder" m_J4_append_15ec4 1 := ⟨TW_of (i := 854) (by decide +kernel) (by decide +kernel), im_J4_append_15ec4, sl_J4_append_15ec4, lb_J4_append_15ec4 _ _⟩
theorem lk_Jx7c733_19 : LkV "java/lang/StringIndexOutOfBoundsException" 19 "java/lang/StringBuilder" m_J4_append_bf812 1 := ⟨TW_of (i := 970) (by decide +kernel) (by decide +kernel), im_J4_append_bf812, sl_J4_append_bf812, lb_J4_append_bf812 _ _⟩
theorem lk_Jx7c733_22 : LkV "java/lang/StringIndexOutOfBoundsException" 22 "java/lang/StringBuilder" m_J4_toString_0e30d 0 := ⟨TW_of (i := 995) (by decide +kernel) (by decide +kernel), im_J4_toString_0e30d, sl_J4_toString_0e30d, lb_J4_toString_0e30d _ _⟩
theorem lk_J1_9 : LkS "java/lang/StringLatin1" 9 m_J0_checkIndex_df160 2 := ⟨TW_of (i := 1557) (by decide +kernel) (by decide +kernel), sm_J0_checkIndex_df160, lb_J0_checkIndex_df160 _ _⟩
theorem sm_J7_fill_eb02e : Cond.static m_J7_fill_eb02e.1 ∈ TW := TW_of (i := 1075) (by decide +kernel) (by decide +kernel)
theorem lb_J7_fill_eb02e : ∀ (own : String) (idx : Nat), LkB own idx m_J7_fill_eb02e 4 := fun _ _ => ⟨iw_J7, TW_of (i := 1076) (by decide +kernel) (by decide +kernel), ⟨by decide +kernel, by decide +kernel⟩, by decide +kernel, by decide⟩
theorem lk_J1_236 : LkS "java/lang/StringLatin1" 236 m_J7_fill_eb02e 4 := ⟨TW_of (i := 1074) (by decide +kernel) (by decide +kernel), sm_J7_fill_eb02e, lb_J7_fill_eb02e _ _⟩
theorem sm_J2_inflate_0e8fd : Cond.static m_J2_inflate_0e8fd.1 ∈ TW := TW_of (i := 953) (by decide +kernel) (by decide +kernel)
theorem lb_J2_inflate_0e8fd : ∀ (own : String) (idx : Nat), LkB own idx m_J2_inflate_0e8fd 5 := fun _ _ => ⟨iw_J2, TW_of (i := 954) (by decide +kernel) (by decide +kernel), ⟨by decide +kernel, by decide +kernel⟩, by decide +kernel, by decide⟩
theorem lk_J1_240 : LkS "java/lang/StringLatin1" 240 m_J2_inflate_0e8fd 5 := ⟨TW_of (i := 952) (by decide +kernel) (by decide +kernel), sm_J2_inflate_0e8fd, lb_J2_inflate_0e8fd _ _⟩
theorem sm_J2_newBytesLength_0f7a4 : Cond.static m_J2_newBytesLength_0f7a4.1 ∈ TW := TW_of (i := 327) (by decide +kernel) (by decide +kernel)
theorem lb_J2_newBytesLength_0f7a4 : ∀ (own : String) (idx : Nat), LkB own idx m_J2_newBytesLength_0f7a4 1 := fun _ _ => ⟨iw_J2, TW_of (i := 328) (by decide +kernel) (by decide +kernel), ⟨by decide +kernel, by decide +kernel⟩, by decide +kernel, by decide⟩
theorem lk_J2_11 : LkS "java/lang/StringUTF16" 11 m_J2_newBytesLength_0f7a4 1 := ⟨TW_of (i := 326) (by decide +kernel) (by decide +kernel), sm_J2_newBytesLength_0f7a4, lb_J2_newBytesLength_0f7a4 _ _⟩
theorem kc_J2_20 : Cond.constant "java/lang/StringUTF16" 20 1073741823 ∈ TW := TW_of (i := 329) (by decide +kernel) (by decide +kernel)
theorem gs_J2_44 : Cond.fieldLink "java/lang/StringUTF16" 44 "java/lang/StringUTF16" "$assertionsDisabled" "Z" ∈ TW := TW_of (i := 921) (by decide +kernel) (by decide +kernel)
theorem sm_J2_length_9d52b : Cond.static m_J2_length_9d52b.1 ∈ TW := TW_of (i := 908) (by decide +kernel) (by decide +kernel)
theorem lb_J2_length_9d52b : ∀ (own : String) (idx : Nat), LkB own idx m_J2_length_9d52b 1 := fun _ _ => ⟨iw_J2, TW_of (i := 909) (by decide +kernel) (by decide +kernel), ⟨by decide +kernel, by decide +kernel⟩, by decide +kernel, by decide⟩
theorem lk_J2_48 : LkS "java/lang/StringUTF16" 48 m_J2_length_9d52b 1 := ⟨TW_of (i := 907) (by decide +kernel) (by decide +kernel), sm_J2_length_9d52b, lb_J2_length_9d52b _ _⟩
theorem gs_J2_59 : Cond.fieldLink "java/lang/StringUTF16" 59 "java/lang/StringUTF16" "HI_BYTE_SHIFT" "I" ∈ TW := TW_of (i := 923) (by decide +kernel) (by decide +kernel)
theorem gs_J2_63 : Cond.fieldLink "java/lang/StringUTF16" 63 "java/lang/StringUTF16" "LO_BYTE_SHIFT" "I" ∈ TW := TW_of (i := 925) (by decide +kernel) (by decide +kernel)
theorem sm_J2_compress_5af95 : Cond.static m_J2_compress_5af95.1 ∈ TW := TW_of (i := 1043) (by decide +kernel) (by decide +kernel)
theorem lb_J2_compress_5af95 : ∀ (own : String) (idx : Nat), LkB own idx m_J2_compress_5af95 5 := fun _ _ => ⟨iw_J2, TW_of (i := 1044) (by decide +kernel) (by decide +kernel), ⟨by decide +kernel, by decide +kernel⟩, by decide +kernel, by decide⟩
theorem lk_J2_123 : LkS "java/lang/StringUTF16" 123 m_J2_compress_5af95 5 := ⟨TW_of (i := 1042) (by decide +kernel) (by decide +kernel), sm_J2_compress_5af95, lb_J2_compress_5af95 _ _⟩
theorem lk_J2_126 : LkS "java/lang/StringUTF16" 126 m_J7_copyOfRange_39247 3 := ⟨TW_of (i := 1048) (by decide +kernel) (by decide +kernel), sm_J7_copyOfRange_39247, lb_J7_copyOfRange_39247 _ _⟩
theorem lk_J2_71 : LkS "java/lang/StringUTF16" 71 m_J2_getChar_3b067 2 := ⟨TW_of (i := 1045) (by decide +kernel) (by decide +kernel), sm_J2_getChar_3b067, lb_J2_getChar_3b067 _ _⟩
theorem sm_J2_checkBoundsOffCount_d044e : Cond.static m_J2_checkBoundsOffCount_d044e.1 ∈ TW := TW_of (i := 956) (by decide +kernel) (by decide +kernel)
theorem lb_J2_checkBoundsOffCount_d044e : ∀ (own : String) (idx : Nat), LkB own idx m_J2_checkBoundsOffCount_d044e 3 := fun _ _ => ⟨iw_J2, TW_of (i := 957) (by decide +kernel) (by decide +kernel), ⟨by decide +kernel, by decide +kernel⟩, by decide +kernel, by decide⟩
theorem lk_J2_173 : LkS "java/lang/StringUTF16" 173 m_J2_checkBoundsOffCount_d044e 3 := ⟨TW_of (i := 955) (by decide +kernel) (by decide +kernel), sm_J2_checkBoundsOffCount_d044e, lb_J2_checkBoundsOffCount_d044e _ _⟩
theorem lk_J2_380 : LkS "java/lang/StringUTF16" 380 m_J7_fill_eb02e 4 := ⟨TW_of (i := 1109) (by decide +kernel) (by decide +kernel), sm_J7_fill_eb02e, lb_J7_fill_eb02e _ _⟩
theorem sm_J2_checkIndex_2214a : Cond.static m_J2_checkIndex_2214a.1 ∈ TW := TW_of (i := 1128) (by decide +kernel) (by decide +kernel)
theorem lb_J2_checkIndex_2214a : ∀ (own : String) (idx : Nat), LkB own idx m_J2_checkIndex_2214a 2 := fun _ _ => ⟨iw_J2, TW_of (i := 1129) (by decide +kernel) (by decide +kernel), ⟨by decide +kernel, by decide +kernel⟩, by decide +kernel, by decide⟩
theorem lk_J2_67 : LkS "java/lang/StringUTF16" 67 m_J2_checkIndex_2214a 2 := ⟨TW_of (i := 1127) (by decide +kernel) (by decide +kernel), sm_J2_checkIndex_2214a, lb_J2_checkIndex_2214a _ _⟩
theorem sm_J2_putChar_b72d1 : Cond.static m_J2_putChar_b72d1.1 ∈ TW := TW_of (i := 919) (by decide +kernel) (by decide +kernel)
theorem lb_J2_putChar_b72d1 : ∀ (own : String) (idx : Nat), LkB own idx m_J2_putChar_b72d1 3 := fun _ _ => ⟨iw_J2, TW_of (i := 920) (by decide +kernel) (by decide +kernel), ⟨by decide +kernel, by decide +kernel⟩, by decide +kernel, by decide⟩
theorem lk_J2_111 : LkS "java/lang/StringUTF16" 111 m_J2_putChar_b72d1 3 := ⟨TW_of (i := 918) (by decide +kernel) (by decide +kernel), sm_J2_putChar_b72d1, lb_J2_putChar_b72d1 _ _⟩
theorem sm_J2_checkBoundsBeginEnd_d044e : Cond.static m_J2_checkBoundsBeginEnd_d044e.1 ∈ TW := TW_of (i := 905) (by decide +kernel) (by decide +kernel)
theorem lb_J2_checkBoundsBeginEnd_d044e : ∀ (own : String) (idx : Nat), LkB own idx m_J2_checkBoundsBeginEnd_d044e 3 := fun _ _ => ⟨iw_J2, TW_of (i := 906) (by decide +kernel) (by decide +kernel), ⟨by decide +kernel, by decide +kernel⟩, by decide +kernel, by decide⟩
theorem lk_J2_96 : LkS "java/lang/StringUTF16" 96 m_J2_checkBoundsBeginEnd_d044e 3 := ⟨TW_of (i := 904) (by decide +kernel) (by decide +kernel), sm_J2_checkBoundsBeginEnd_d044e, lb_J2_checkBoundsBeginEnd_d044e _ _⟩
theorem sm_J2_getChars_ba4f3 : Cond.static m_J2_getChars_ba4f3.1 ∈ TW := TW_of (i := 991) (by decide +kernel) (by decide +kernel)
theorem lb_J2_getChars_ba4f3 : ∀ (own : String) (idx : Nat), LkB own idx m_J2_getChars_ba4f3 3 := fun _ _ => ⟨iw_J2, TW_of (i := 992) (by decide +kernel) (by decide +kernel), ⟨by decide +kernel, by decide +kernel⟩, by decide +kernel, by decide⟩
theorem lk_J2_393 : LkS "java/lang/StringUTF16" 393 m_J2_getChars_ba4f3 3 := ⟨TW_of (i := 990) (by decide +kernel) (by decide +kernel), sm_J2_getChars_ba4f3, lb_J2_getChars_ba4f3 _ _⟩
theorem gs_J2_403 : Cond.fieldLink "java/lang/StringUTF16" 403 "java/lang/Integer" "DigitOnes" "[B" ∈ TW := TW_of (i := 993) (by decide +kernel) (by decide +kernel)
theorem gs_J2_407 : Cond.fieldLink "java/lang/StringUTF16" 407 "java/lang/Integer" "DigitTens" "[B" ∈ TW := TW_of (i := 994) (by decide +kernel) (by decide +kernel)
theorem lk_J2_414 : LkS "java/lang/StringUTF16" 414 m_J0_checkIndex_df160 2 := ⟨TW_of (i := 1130) (by decide +kernel) (by decide +kernel), sm_J0_checkIndex_df160, lb_J0_checkIndex_df160 _ _⟩
theorem sm_J0_checkBoundsBeginEnd_23922 : Cond.static m_J0_checkBoundsBeginEnd_23922.1 ∈ TW := TW_of (i := 911) (by decide +kernel) (by decide +kernel)
theorem lb_J0_checkBoundsBeginEnd_23922 : ∀ (own : String) (idx : Nat), LkB own idx m_J0_checkBoundsBeginEnd_23922 3 := fun _ _ => ⟨iw_J0, TW_of (i := 912) (by decide +kernel) (by decide +kernel), ⟨by decide +kernel, by decide +kernel⟩, by decide +kernel, by decide⟩
theorem lk_J2_241 : LkS "java/lang/StringUTF16" 241 m_J0_checkBoundsBeginEnd_23922 3 := ⟨TW_of (i := 910) (by decide +kernel) (by decide +kernel), sm_J0_checkBoundsBeginEnd_23922, lb_J0_checkBoundsBeginEnd_23922 _ _⟩
theorem sm_J0_checkBoundsOffCount_cabcc : Cond.static m_J0_checkBoundsOffCount_cabcc.1 ∈ TW := TW_of (i := 959) (by decide +kernel) (by decide +kernel)
theorem lb_J0_checkBoundsOffCount_cabcc : ∀ (own : String) (idx : Nat), LkB own idx m_J0_checkBoundsOffCount_cabcc 3 := fun _ _ => ⟨iw_J0, TW_of (i := 960) (by decide +kernel) (by decide +kernel), ⟨by decide +kernel, by decide +kernel⟩, by decide +kernel, by decide⟩
theorem lk_J2_419 : LkS "java/lang/StringUTF16" 419 m_J0_checkBoundsOffCount_cabcc 3 := ⟨TW_of (i := 958) (by decide +kernel) (by decide +kernel), sm_J0_checkBoundsOffCount_cabcc, lb_J0_checkBoundsOffCount_cabcc _ _⟩
theorem nw_J7_45 : NW "java/util/Arrays" 45 1 4 := ⟨_, rfl, by decide, rfl, TW_of (i := 1032) (by decide +kernel) (by decide +kernel), TW_of (i := 313) (by decide +kernel) (by decide +kernel), TW_of (i := 81) (by decide +kernel) (by decide +kernel), nw_def 1 4 (by decide +kernel)⟩
theorem lk_J7_47 : LkI "java/util/Arrays" 47 m_J4_init_da8c8 0 := ⟨TW_of (i := 1033) (by decide +kernel) (by decide +kernel), im_J4_init_da8c8, rfl, rfl, lb_J4_init_da8c8 _ _⟩
theorem lk_J7_50 : LkV "java/util/Arrays" 50 "java/lang/StringBuilder" m_J4_append_15ec4 1 := ⟨TW_of (i := 1036) (by decide +kernel) (by decide +kernel), im_J4_append_15ec4, sl_J4_append_15ec4, lb_J4_append_15ec4 _ _⟩
theorem lk_J7_54 : LkV "java/util/Arrays" 54 "java/lang/StringBuilder" m_J4_append_bf812 1 := ⟨TW_of (i := 1034) (by decide +kernel) (by decide +kernel), im_J4_append_bf812, sl_J4_append_bf812, lb_J4_append_bf812 _ _⟩
theorem lk_J7_61 : LkV "java/util/Arrays" 61 "java/lang/StringBuilder" m_J4_toString_0e30d 0 := ⟨TW_of (i := 1037) (by decide +kernel) (by decide +kernel), im_J4_toString_0e30d, sl_J4_toString_0e30d, lb_J4_toString_0e30d _ _⟩
theorem im_Jx00060_init_d00df : Cond.instanceMethod m_Jx00060_init_d00df.1 ∈ TW := TW_of (i := 1095) (by decide +kernel) (by decide +kernel)
theorem iw_Jx00060 : Cond.initialized "java/lang/ArrayIndexOutOfBoundsException" ∈ TW := TW_of (i := 97) (by decide +kernel) (by decide +kernel)
theorem lb_Jx00060_init_d00df : ∀ (own : String) (idx : Nat), LkB own idx m_Jx00060_init_d00df 1 := fun _ _ => ⟨iw_Jx00060, TW_of (i := 1096) (by decide +kernel) (by decide +kernel), ⟨by decide +kernel, by decide +kernel⟩, by decide +kernel, by decide⟩
theorem lk_J7_70 : LkI "java/util/Arrays" 70 m_Jx00060_init_d00df 1 := ⟨TW_of (i := 1094) (by decide +kernel) (by decide +kernel), im_Jx00060_init_d00df, rfl, rfl, lb_Jx00060_init_d00df _ _⟩
theorem sm_J7_rangeCheck_23922 : Cond.static m_J7_rangeCheck_23922.1 ∈ TW := TW_of (i := 1078) (by decide +kernel) (by decide +kernel)
theorem lb_J7_rangeCheck_23922 : ∀ (own : String) (idx : Nat), LkB own idx m_J7_rangeCheck_23922 3 := fun _ _ => ⟨iw_J7, TW_of (i := 1079) (by decide +kernel) (by decide +kernel), ⟨by decide +kernel, by decide +kernel⟩, by decide +kernel, by decide⟩
theorem lk_J7_13 : LkS "java/util/Arrays" 13 m_J7_rangeCheck_23922 3 := ⟨TW_of (i := 1077) (by decide +kernel) (by decide +kernel), sm_J7_rangeCheck_23922, lb_J7_rangeCheck_23922 _ _⟩
theorem mm_J7_304 : Cond.methodLink "java/util/Arrays" 304 Lib.Math.min.name ∈ TW := TW_of (i := 892) (by decide +kernel) (by decide +kernel)
theorem sm_J7_copyOfRangeByte_39247 : Cond.static m_J7_copyOfRangeByte_39247.1 ∈ TW := TW_of (i := 1026) (by decide +kernel) (by decide +kernel)
theorem lb_J7_copyOfRangeByte_39247 : ∀ (own : String) (idx : Nat), LkB own idx m_J7_copyOfRangeByte_39247 3 := fun _ _ => ⟨iw_J7, TW_of (i := 1027) (by decide +kernel) (by decide +kernel), ⟨by decide +kernel, by decide +kernel⟩, by decide +kernel, by decide⟩
theorem lk_J7_339 : LkS "java/util/Arrays" 339 m_J7_copyOfRangeByte_39247 3 := ⟨TW_of (i := 1025) (by decide +kernel) (by decide +kernel), sm_J7_copyOfRangeByte_39247, lb_J7_copyOfRangeByte_39247 _ _⟩
theorem sm_J7_checkLength_df160 : Cond.static m_J7_checkLength_df160.1 ∈ TW := TW_of (i := 1029) (by decide +kernel) (by decide +kernel)
theorem lb_J7_checkLength_df160 : ∀ (own : String) (idx : Nat), LkB own idx m_J7_checkLength_df160 2 := fun _ _ => ⟨iw_J7, TW_of (i := 1030) (by decide +kernel) (by decide +kernel), ⟨by decide +kernel, by decide +kernel⟩, by decide +kernel, by decide⟩
theorem lk_J7_343 : LkS "java/util/Arrays" 343 m_J7_checkLength_df160 2 := ⟨TW_of (i := 1028) (by decide +kernel) (by decide +kernel), sm_J7_checkLength_df160, lb_J7_checkLength_df160 _ _⟩
theorem mm_J8_194 : Cond.methodLink "jdk/internal/util/ArraysSupport" 194 Lib.Math.max.name ∈ TW := TW_of (i := 876) (by decide +kernel) (by decide +kernel)
theorem kc_J8_200 : Cond.constant "jdk/internal/util/ArraysSupport" 200 2147483639 ∈ TW := TW_of (i := 877) (by decide +kernel) (by decide +kernel)
theorem sm_J8_hugeLength_7cf53 : Cond.static m_J8_hugeLength_7cf53.1 ∈ TW := TW_of (i := 879) (by decide +kernel) (by decide +kernel)
theorem lb_J8_hugeLength_7cf53 : ∀ (own : String) (idx : Nat), LkB own idx m_J8_hugeLength_7cf53 2 := fun _ _ => ⟨iw_J8, TW_of (i := 880) (by decide +kernel) (by decide +kernel), ⟨by decide +kernel, by decide +kernel⟩, by decide +kernel, by decide⟩
theorem lk_J8_201 : LkS "jdk/internal/util/ArraysSupport" 201 m_J8_hugeLength_7cf53 2 := ⟨TW_of (i := 878) (by decide +kernel) (by decide +kernel), sm_J8_hugeLength_7cf53, lb_J8_hugeLength_7cf53 _ _⟩
theorem im_X8_addKettle : Cond.instanceMethod m_X8_addKettle.1 ∈ TW := TW_of (i := 1152) (by decide +kernel) (by decide +kernel)
theorem sl_X8_addKettle : Cond.selects "TeaHouse" m_X8_addKettle.1 m_X8_addKettle.1 ∈ TW := TW_of (i := 1153) (by decide +kernel) (by decide +kernel)
theorem lb_X8_addKettle : ∀ (own : String) (idx : Nat), LkB own idx m_X8_addKettle 1 := fun _ _ => ⟨iw_X8, TW_of (i := 1154) (by decide +kernel) (by decide +kernel), ⟨by decide +kernel, by decide +kernel⟩, by decide +kernel, by decide⟩
theorem lk_L_7 : LkV "TeaHouseLaw" 7 "TeaHouse" m_X8_addKettle 1 := ⟨TW_of (i := 1151) (by decide +kernel) (by decide +kernel), im_X8_addKettle, sl_X8_addKettle, lb_X8_addKettle _ _⟩
theorem im_X8_fill : Cond.instanceMethod m_X8_fill.1 ∈ TW := TW_of (i := 1164) (by decide +kernel) (by decide +kernel)
theorem sl_X8_fill : Cond.selects "TeaHouse" m_X8_fill.1 m_X8_fill.1 ∈ TW := TW_of (i := 1165) (by decide +kernel) (by decide +kernel)
theorem lb_X8_fill : ∀ (own : String) (idx : Nat), LkB own idx m_X8_fill 2 := fun _ _ => ⟨iw_X8, TW_of (i := 1166) (by decide +kernel) (by decide +kernel), ⟨by decide +kernel, by decide +kernel⟩, by decide +kernel, by decide⟩
theorem lk_L_17 : LkV "TeaHouseLaw" 17 "TeaHouse" m_X8_fill 2 := ⟨TW_of (i := 1163) (by decide +kernel) (by decide +kernel), im_X8_fill, sl_X8_fill, lb_X8_fill _ _⟩
theorem im_X8_setBurner : Cond.instanceMethod m_X8_setBurner.1 ∈ TW := TW_of (i := 1173) (by decide +kernel) (by decide +kernel)
theorem sl_X8_setBurner : Cond.selects "TeaHouse" m_X8_setBurner.1 m_X8_setBurner.1 ∈ TW := TW_of (i := 1174) (by decide +kernel) (by decide +kernel)
theorem lb_X8_setBurner : ∀ (own : String) (idx : Nat), LkB own idx m_X8_setBurner 2 := fun _ _ => ⟨iw_X8, TW_of (i := 1175) (by decide +kernel) (by decide +kernel), ⟨by decide +kernel, by decide +kernel⟩, by decide +kernel, by decide⟩
theorem lk_L_23 : LkV "TeaHouseLaw" 23 "TeaHouse" m_X8_setBurner 2 := ⟨TW_of (i := 1172) (by decide +kernel) (by decide +kernel), im_X8_setBurner, sl_X8_setBurner, lb_X8_setBurner _ _⟩
theorem im_X8_order : Cond.instanceMethod m_X8_order.1 ∈ TW := TW_of (i := 1182) (by decide +kernel) (by decide +kernel)
theorem sl_X8_order : Cond.selects "TeaHouse" m_X8_order.1 m_X8_order.1 ∈ TW := TW_of (i := 1183) (by decide +kernel) (by decide +kernel)
theorem lb_X8_order : ∀ (own : String) (idx : Nat), LkB own idx m_X8_order 4 := fun _ _ => ⟨iw_X8, TW_of (i := 1184) (by decide +kernel) (by decide +kernel), ⟨by decide +kernel, by decide +kernel⟩, by decide +kernel, by decide⟩
theorem lk_L_27 : LkV "TeaHouseLaw" 27 "TeaHouse" m_X8_order 4 := ⟨TW_of (i := 1181) (by decide +kernel) (by decide +kernel), im_X8_order, sl_X8_order, lb_X8_order _ _⟩
theorem im_X8_cancel : Cond.instanceMethod m_X8_cancel.1 ∈ TW := TW_of (i := 1192) (by decide +kernel) (by decide +kernel)
theorem sl_X8_cancel : Cond.selects "TeaHouse" m_X8_cancel.1 m_X8_cancel.1 ∈ TW := TW_of (i := 1193) (by decide +kernel) (by decide +kernel)
theorem lb_X8_cancel : ∀ (own : String) (idx : Nat), LkB own idx m_X8_cancel 1 := fun _ _ => ⟨iw_X8, TW_of (i := 1194) (by decide +kernel) (by decide +kernel), ⟨by decide +kernel, by decide +kernel⟩, by decide +kernel, by decide⟩
theorem lk_L_31 : LkV "TeaHouseLaw" 31 "TeaHouse" m_X8_cancel 1 := ⟨TW_of (i := 1191) (by decide +kernel) (by decide +kernel), im_X8_cancel, sl_X8_cancel, lb_X8_cancel _ _⟩
theorem im_X8_serveNext : Cond.instanceMethod m_X8_serveNext.1 ∈ TW := TW_of (i := 1201) (by decide +kernel) (by decide +kernel)
theorem sl_X8_serveNext : Cond.selects "TeaHouse" m_X8_serveNext.1 m_X8_serveNext.1 ∈ TW := TW_of (i := 1202) (by decide +kernel) (by decide +kernel)
theorem lb_X8_serveNext : ∀ (own : String) (idx : Nat), LkB own idx m_X8_serveNext 0 := fun _ _ => ⟨iw_X8, TW_of (i := 1203) (by decide +kernel) (by decide +kernel), ⟨by decide +kernel, by decide +kernel⟩, by decide +kernel, by decide⟩
theorem lk_L_36 : LkV "TeaHouseLaw" 36 "TeaHouse" m_X8_serveNext 0 := ⟨TW_of (i := 1200) (by decide +kernel) (by decide +kernel), im_X8_serveNext, sl_X8_serveNext, lb_X8_serveNext _ _⟩
theorem im_X8_wash : Cond.instanceMethod m_X8_wash.1 ∈ TW := TW_of (i := 1208) (by decide +kernel) (by decide +kernel)
theorem sl_X8_wash : Cond.selects "TeaHouse" m_X8_wash.1 m_X8_wash.1 ∈ TW := TW_of (i := 1209) (by decide +kernel) (by decide +kernel)
theorem lb_X8_wash : ∀ (own : String) (idx : Nat), LkB own idx m_X8_wash 1 := fun _ _ => ⟨iw_X8, TW_of (i := 1210) (by decide +kernel) (by decide +kernel), ⟨by decide +kernel, by decide +kernel⟩, by decide +kernel, by decide⟩
theorem lk_L_40 : LkV "TeaHouseLaw" 40 "TeaHouse" m_X8_wash 1 := ⟨TW_of (i := 1207) (by decide +kernel) (by decide +kernel), im_X8_wash, sl_X8_wash, lb_X8_wash _ _⟩
theorem im_X8_sellSteam : Cond.instanceMethod m_X8_sellSteam.1 ∈ TW := TW_of (i := 1217) (by decide +kernel) (by decide +kernel)
theorem sl_X8_sellSteam : Cond.selects "TeaHouse" m_X8_sellSteam.1 m_X8_sellSteam.1 ∈ TW := TW_of (i := 1218) (by decide +kernel) (by decide +kernel)
theorem lb_X8_sellSteam : ∀ (own : String) (idx : Nat), LkB own idx m_X8_sellSteam 1 := fun _ _ => ⟨iw_X8, TW_of (i := 1219) (by decide +kernel) (by decide +kernel), ⟨by decide +kernel, by decide +kernel⟩, by decide +kernel, by decide⟩
theorem lk_L_43 : LkV "TeaHouseLaw" 43 "TeaHouse" m_X8_sellSteam 1 := ⟨TW_of (i := 1216) (by decide +kernel) (by decide +kernel), im_X8_sellSteam, sl_X8_sellSteam, lb_X8_sellSteam _ _⟩
theorem im_X8_setCupPrice : Cond.instanceMethod m_X8_setCupPrice.1 ∈ TW := TW_of (i := 1226) (by decide +kernel) (by decide +kernel)
theorem sl_X8_setCupPrice : Cond.selects "TeaHouse" m_X8_setCupPrice.1 m_X8_setCupPrice.1 ∈ TW := TW_of (i := 1227) (by decide +kernel) (by decide +kernel)
theorem lb_X8_setCupPrice : ∀ (own : String) (idx : Nat), LkB own idx m_X8_setCupPrice 1 := fun _ _ => ⟨iw_X8, TW_of (i := 1228) (by decide +kernel) (by decide +kernel), ⟨by decide +kernel, by decide +kernel⟩, by decide +kernel, by decide⟩
theorem lk_L_47 : LkV "TeaHouseLaw" 47 "TeaHouse" m_X8_setCupPrice 1 := ⟨TW_of (i := 1225) (by decide +kernel) (by decide +kernel), im_X8_setCupPrice, sl_X8_setCupPrice, lb_X8_setCupPrice _ _⟩
theorem im_X8_setSteamPrice : Cond.instanceMethod m_X8_setSteamPrice.1 ∈ TW := TW_of (i := 1235) (by decide +kernel) (by decide +kernel)
theorem sl_X8_setSteamPrice : Cond.selects "TeaHouse" m_X8_setSteamPrice.1 m_X8_setSteamPrice.1 ∈ TW := TW_of (i := 1236) (by decide +kernel) (by decide +kernel)
theorem lb_X8_setSteamPrice : ∀ (own : String) (idx : Nat), LkB own idx m_X8_setSteamPrice 1 := fun _ _ => ⟨iw_X8, TW_of (i := 1237) (by decide +kernel) (by decide +kernel), ⟨by decide +kernel, by decide +kernel⟩, by decide +kernel, by decide⟩
theorem lk_L_50 : LkV "TeaHouseLaw" 50 "TeaHouse" m_X8_setSteamPrice 1 := ⟨TW_of (i := 1234) (by decide +kernel) (by decide +kernel), im_X8_setSteamPrice, sl_X8_setSteamPrice, lb_X8_setSteamPrice _ _⟩
theorem im_X8_pass : Cond.instanceMethod m_X8_pass.1 ∈ TW := TW_of (i := 1244) (by decide +kernel) (by decide +kernel)
theorem sl_X8_pass : Cond.selects "TeaHouse" m_X8_pass.1 m_X8_pass.1 ∈ TW := TW_of (i := 1245) (by decide +kernel) (by decide +kernel)
theorem lb_X8_pass : ∀ (own : String) (idx : Nat), LkB own idx m_X8_pass 1 := fun _ _ => ⟨iw_X8, TW_of (i := 1246) (by decide +kernel) (by decide +kernel), ⟨by decide +kernel, by decide +kernel⟩, by decide +kernel, by decide⟩
theorem lk_L_53 : LkV "TeaHouseLaw" 53 "TeaHouse" m_X8_pass 1 := ⟨TW_of (i := 1243) (by decide +kernel) (by decide +kernel), im_X8_pass, sl_X8_pass, lb_X8_pass _ _⟩
theorem im_X8_closeNight : Cond.instanceMethod m_X8_closeNight.1 ∈ TW := TW_of (i := 1253) (by decide +kernel) (by decide +kernel)
theorem sl_X8_closeNight : Cond.selects "TeaHouse" m_X8_closeNight.1 m_X8_closeNight.1 ∈ TW := TW_of (i := 1254) (by decide +kernel) (by decide +kernel)
theorem lb_X8_closeNight : ∀ (own : String) (idx : Nat), LkB own idx m_X8_closeNight 0 := fun _ _ => ⟨iw_X8, TW_of (i := 1255) (by decide +kernel) (by decide +kernel), ⟨by decide +kernel, by decide +kernel⟩, by decide +kernel, by decide⟩
theorem lk_L_56 : LkV "TeaHouseLaw" 56 "TeaHouse" m_X8_closeNight 0 := ⟨TW_of (i := 1252) (by decide +kernel) (by decide +kernel), im_X8_closeNight, sl_X8_closeNight, lb_X8_closeNight _ _⟩
theorem im_X8_capacity : Cond.instanceMethod m_X8_capacity.1 ∈ TW := TW_of (i := 1262) (by decide +kernel) (by decide +kernel)
theorem sl_X8_capacity : Cond.selects "TeaHouse" m_X8_capacity.1 m_X8_capacity.1 ∈ TW := TW_of (i := 1263) (by decide +kernel) (by decide +kernel)
theorem lb_X8_capacity : ∀ (own : String) (idx : Nat), LkB own idx m_X8_capacity 1 := fun _ _ => ⟨iw_X8, TW_of (i := 1264) (by decide +kernel) (by decide +kernel), ⟨by decide +kernel, by decide +kernel⟩, by decide +kernel, by decide⟩
theorem lk_L_60 : LkV "TeaHouseLaw" 60 "TeaHouse" m_X8_capacity 1 := ⟨TW_of (i := 1261) (by decide +kernel) (by decide +kernel), im_X8_capacity, sl_X8_capacity, lb_X8_capacity _ _⟩
theorem im_X8_volume : Cond.instanceMethod m_X8_volume.1 ∈ TW := TW_of (i := 1274) (by decide +kernel) (by decide +kernel)
theorem sl_X8_volume : Cond.selects "TeaHouse" m_X8_volume.1 m_X8_volume.1 ∈ TW := TW_of (i := 1275) (by decide +kernel) (by decide +kernel)
theorem lb_X8_volume : ∀ (own : String) (idx : Nat), LkB own idx m_X8_volume 1 := fun _ _ => ⟨iw_X8, TW_of (i := 1276) (by decide +kernel) (by decide +kernel), ⟨by decide +kernel, by decide +kernel⟩, by decide +kernel, by decide⟩
theorem lk_L_63 : LkV "TeaHouseLaw" 63 "TeaHouse" m_X8_volume 1 := ⟨TW_of (i := 1273) (by decide +kernel) (by decide +kernel), im_X8_volume, sl_X8_volume, lb_X8_volume _ _⟩
theorem im_X8_temperature : Cond.instanceMethod m_X8_temperature.1 ∈ TW := TW_of (i := 1281) (by decide +kernel) (by decide +kernel)
theorem sl_X8_temperature : Cond.selects "TeaHouse" m_X8_temperature.1 m_X8_temperature.1 ∈ TW := TW_of (i := 1282) (by decide +kernel) (by decide +kernel)
theorem lb_X8_temperature : ∀ (own : String) (idx : Nat), LkB own idx m_X8_temperature 1 := fun _ _ => ⟨iw_X8, TW_of (i := 1283) (by decide +kernel) (by decide +kernel), ⟨by decide +kernel, by decide +kernel⟩, by decide +kernel, by decide⟩
theorem lk_L_66 : LkV "TeaHouseLaw" 66 "TeaHouse" m_X8_temperature 1 := ⟨TW_of (i := 1280) (by decide +kernel) (by decide +kernel), im_X8_temperature, sl_X8_temperature, lb_X8_temperature _ _⟩
theorem im_X8_temperatureBits : Cond.instanceMethod m_X8_temperatureBits.1 ∈ TW := TW_of (i := 1288) (by decide +kernel) (by decide +kernel)
theorem sl_X8_temperatureBits : Cond.selects "TeaHouse" m_X8_temperatureBits.1 m_X8_temperatureBits.1 ∈ TW := TW_of (i := 1289) (by decide +kernel) (by decide +kernel)
theorem lb_X8_temperatureBits : ∀ (own : String) (idx : Nat), LkB own idx m_X8_temperatureBits 1 := fun _ _ => ⟨iw_X8, TW_of (i := 1290) (by decide +kernel) (by decide +kernel), ⟨by decide +kernel, by decide +kernel⟩, by decide +kernel, by decide⟩
theorem lk_L_69 : LkV "TeaHouseLaw" 69 "TeaHouse" m_X8_temperatureBits 1 := ⟨TW_of (i := 1287) (by decide +kernel) (by decide +kernel), im_X8_temperatureBits, sl_X8_temperatureBits, lb_X8_temperatureBits _ _⟩
theorem im_X8_burner : Cond.instanceMethod m_X8_burner.1 ∈ TW := TW_of (i := 1295) (by decide +kernel) (by decide +kernel)
theorem sl_X8_burner : Cond.selects "TeaHouse" m_X8_burner.1 m_X8_burner.1 ∈ TW := TW_of (i := 1296) (by decide +kernel) (by decide +kernel)
theorem lb_X8_burner : ∀ (own : String) (idx : Nat), LkB own idx m_X8_burner 1 := fun _ _ => ⟨iw_X8, TW_of (i := 1297) (by decide +kernel) (by decide +kernel), ⟨by decide +kernel, by decide +kernel⟩, by decide +kernel, by decide⟩
theorem lk_L_72 : LkV "TeaHouseLaw" 72 "TeaHouse" m_X8_burner 1 := ⟨TW_of (i := 1294) (by decide +kernel) (by decide +kernel), im_X8_burner, sl_X8_burner, lb_X8_burner _ _⟩
theorem im_X8_isBoiling : Cond.instanceMethod m_X8_isBoiling.1 ∈ TW := TW_of (i := 1302) (by decide +kernel) (by decide +kernel)
theorem sl_X8_isBoiling : Cond.selects "TeaHouse" m_X8_isBoiling.1 m_X8_isBoiling.1 ∈ TW := TW_of (i := 1303) (by decide +kernel) (by decide +kernel)
theorem lb_X8_isBoiling : ∀ (own : String) (idx : Nat), LkB own idx m_X8_isBoiling 1 := fun _ _ => ⟨iw_X8, TW_of (i := 1304) (by decide +kernel) (by decide +kernel), ⟨by decide +kernel, by decide +kernel⟩, by decide +kernel, by decide⟩
theorem lk_L_75 : LkV "TeaHouseLaw" 75 "TeaHouse" m_X8_isBoiling 1 := ⟨TW_of (i := 1301) (by decide +kernel) (by decide +kernel), im_X8_isBoiling, sl_X8_isBoiling, lb_X8_isBoiling _ _⟩
theorem im_X8_minutesUntilBoiling : Cond.instanceMethod m_X8_minutesUntilBoiling.1 ∈ TW := TW_of (i := 1309) (by decide +kernel) (by decide +kernel)
theorem sl_X8_minutesUntilBoiling : Cond.selects "TeaHouse" m_X8_minutesUntilBoiling.1 m_X8_minutesUntilBoiling.1 ∈ TW := TW_of (i := 1310) (by decide +kernel) (by decide +kernel)
theorem lb_X8_minutesUntilBoiling : ∀ (own : String) (idx : Nat), LkB own idx m_X8_minutesUntilBoiling 1 := fun _ _ => ⟨iw_X8, TW_of (i := 1311) (by decide +kernel) (by decide +kernel), ⟨by decide +kernel, by decide +kernel⟩, by decide +kernel, by decide⟩
theorem lk_L_79 : LkV "TeaHouseLaw" 79 "TeaHouse" m_X8_minutesUntilBoiling 1 := ⟨TW_of (i := 1308) (by decide +kernel) (by decide +kernel), im_X8_minutesUntilBoiling, sl_X8_minutesUntilBoiling, lb_X8_minutesUntilBoiling _ _⟩
theorem im_X8_minutesUntilBoilingByMinutes : Cond.instanceMethod m_X8_minutesUntilBoilingByMinutes.1 ∈ TW := TW_of (i := 1320) (by decide +kernel) (by decide +kernel)
theorem sl_X8_minutesUntilBoilingByMinutes : Cond.selects "TeaHouse" m_X8_minutesUntilBoilingByMinutes.1 m_X8_minutesUntilBoilingByMinutes.1 ∈ TW := TW_of (i := 1321) (by decide +kernel) (by decide +kernel)
theorem lb_X8_minutesUntilBoilingByMinutes : ∀ (own : String) (idx : Nat), LkB own idx m_X8_minutesUntilBoilingByMinutes 1 := fun _ _ => ⟨iw_X8, TW_of (i := 1322) (by decide +kernel) (by decide +kernel), ⟨by decide +kernel, by decide +kernel⟩, by decide +kernel, by decide⟩
theorem lk_L_82 : LkV "TeaHouseLaw" 82 "TeaHouse" m_X8_minutesUntilBoilingByMinutes 1 := ⟨TW_of (i := 1319) (by decide +kernel) (by decide +kernel), im_X8_minutesUntilBoilingByMinutes, sl_X8_minutesUntilBoilingByMinutes, lb_X8_minutesUntilBoilingByMinutes _ _⟩
theorem im_X8_kettleByTemperature : Cond.instanceMethod m_X8_kettleByTemperature.1 ∈ TW := TW_of (i := 1327) (by decide +kernel) (by decide +kernel)
theorem sl_X8_kettleByTemperature : Cond.selects "TeaHouse" m_X8_kettleByTemperature.1 m_X8_kettleByTemperature.1 ∈ TW := TW_of (i := 1328) (by decide +kernel) (by decide +kernel)
theorem lb_X8_kettleByTemperature : ∀ (own : String) (idx : Nat), LkB own idx m_X8_kettleByTemperature 1 := fun _ _ => ⟨iw_X8, TW_of (i := 1329) (by decide +kernel) (by decide +kernel), ⟨by decide +kernel, by decide +kernel⟩, by decide +kernel, by decide⟩
theorem lk_L_85 : LkV "TeaHouseLaw" 85 "TeaHouse" m_X8_kettleByTemperature 1 := ⟨TW_of (i := 1326) (by decide +kernel) (by decide +kernel), im_X8_kettleByTemperature, sl_X8_kettleByTemperature, lb_X8_kettleByTemperature _ _⟩
theorem im_X8_orderAt : Cond.instanceMethod m_X8_orderAt.1 ∈ TW := TW_of (i := 1335) (by decide +kernel) (by decide +kernel)
theorem sl_X8_orderAt : Cond.selects "TeaHouse" m_X8_orderAt.1 m_X8_orderAt.1 ∈ TW := TW_of (i := 1336) (by decide +kernel) (by decide +kernel)
theorem lb_X8_orderAt : ∀ (own : String) (idx : Nat), LkB own idx m_X8_orderAt 1 := fun _ _ => ⟨iw_X8, TW_of (i := 1337) (by decide +kernel) (by decide +kernel), ⟨by decide +kernel, by decide +kernel⟩, by decide +kernel, by decide⟩
theorem lk_L_88 : LkV "TeaHouseLaw" 88 "TeaHouse" m_X8_orderAt 1 := ⟨TW_of (i := 1334) (by decide +kernel) (by decide +kernel), im_X8_orderAt, sl_X8_orderAt, lb_X8_orderAt _ _⟩
theorem im_X8_positionOf : Cond.instanceMethod m_X8_positionOf.1 ∈ TW := TW_of (i := 1343) (by decide +kernel) (by decide +kernel)
theorem sl_X8_positionOf : Cond.selects "TeaHouse" m_X8_positionOf.1 m_X8_positionOf.1 ∈ TW := TW_of (i := 1344) (by decide +kernel) (by decide +kernel)
theorem lb_X8_positionOf : ∀ (own : String) (idx : Nat), LkB own idx m_X8_positionOf 1 := fun _ _ => ⟨iw_X8, TW_of (i := 1345) (by decide +kernel) (by decide +kernel), ⟨by decide +kernel, by decide +kernel⟩, by decide +kernel, by decide⟩
theorem lk_L_91 : LkV "TeaHouseLaw" 91 "TeaHouse" m_X8_positionOf 1 := ⟨TW_of (i := 1342) (by decide +kernel) (by decide +kernel), im_X8_positionOf, sl_X8_positionOf, lb_X8_positionOf _ _⟩
theorem im_X8_cupsOf : Cond.instanceMethod m_X8_cupsOf.1 ∈ TW := TW_of (i := 1351) (by decide +kernel) (by decide +kernel)
theorem sl_X8_cupsOf : Cond.selects "TeaHouse" m_X8_cupsOf.1 m_X8_cupsOf.1 ∈ TW := TW_of (i := 1352) (by decide +kernel) (by decide +kernel)
theorem lb_X8_cupsOf : ∀ (own : String) (idx : Nat), LkB own idx m_X8_cupsOf 1 := fun _ _ => ⟨iw_X8, TW_of (i := 1353) (by decide +kernel) (by decide +kernel), ⟨by decide +kernel, by decide +kernel⟩, by decide +kernel, by decide⟩
theorem lk_L_94 : LkV "TeaHouseLaw" 94 "TeaHouse" m_X8_cupsOf 1 := ⟨TW_of (i := 1350) (by decide +kernel) (by decide +kernel), im_X8_cupsOf, sl_X8_cupsOf, lb_X8_cupsOf _ _⟩
theorem im_X8_priceOf : Cond.instanceMethod m_X8_priceOf.1 ∈ TW := TW_of (i := 1358) (by decide +kernel) (by decide +kernel)
theorem sl_X8_priceOf : Cond.selects "TeaHouse" m_X8_priceOf.1 m_X8_priceOf.1 ∈ TW := TW_of (i := 1359) (by decide +kernel) (by decide +kernel)
theorem lb_X8_priceOf : ∀ (own : String) (idx : Nat), LkB own idx m_X8_priceOf 1 := fun _ _ => ⟨iw_X8, TW_of (i := 1360) (by decide +kernel) (by decide +kernel), ⟨by decide +kernel, by decide +kernel⟩, by decide +kernel, by decide⟩
theorem lk_L_97 : LkV "TeaHouseLaw" 97 "TeaHouse" m_X8_priceOf 1 := ⟨TW_of (i := 1357) (by decide +kernel) (by decide +kernel), im_X8_priceOf, sl_X8_priceOf, lb_X8_priceOf _ _⟩
theorem im_X8_kettleFor : Cond.instanceMethod m_X8_kettleFor.1 ∈ TW := TW_of (i := 1365) (by decide +kernel) (by decide +kernel)
theorem sl_X8_kettleFor : Cond.selects "TeaHouse" m_X8_kettleFor.1 m_X8_kettleFor.1 ∈ TW := TW_of (i := 1366) (by decide +kernel) (by decide +kernel)
theorem lb_X8_kettleFor : ∀ (own : String) (idx : Nat), LkB own idx m_X8_kettleFor 1 := fun _ _ => ⟨iw_X8, TW_of (i := 1367) (by decide +kernel) (by decide +kernel), ⟨by decide +kernel, by decide +kernel⟩, by decide +kernel, by decide⟩
theorem lk_L_100 : LkV "TeaHouseLaw" 100 "TeaHouse" m_X8_kettleFor 1 := ⟨TW_of (i := 1364) (by decide +kernel) (by decide +kernel), im_X8_kettleFor, sl_X8_kettleFor, lb_X8_kettleFor _ _⟩
theorem im_X8_minutesUntilSuitable : Cond.instanceMethod m_X8_minutesUntilSuitable.1 ∈ TW := TW_of (i := 1373) (by decide +kernel) (by decide +kernel)
theorem sl_X8_minutesUntilSuitable : Cond.selects "TeaHouse" m_X8_minutesUntilSuitable.1 m_X8_minutesUntilSuitable.1 ∈ TW := TW_of (i := 1374) (by decide +kernel) (by decide +kernel)
theorem lb_X8_minutesUntilSuitable : ∀ (own : String) (idx : Nat), LkB own idx m_X8_minutesUntilSuitable 1 := fun _ _ => ⟨iw_X8, TW_of (i := 1375) (by decide +kernel) (by decide +kernel), ⟨by decide +kernel, by decide +kernel⟩, by decide +kernel, by decide⟩
theorem lk_L_103 : LkV "TeaHouseLaw" 103 "TeaHouse" m_X8_minutesUntilSuitable 1 := ⟨TW_of (i := 1372) (by decide +kernel) (by decide +kernel), im_X8_minutesUntilSuitable, sl_X8_minutesUntilSuitable, lb_X8_minutesUntilSuitable _ _⟩
theorem im_X8_nightIncome : Cond.instanceMethod m_X8_nightIncome.1 ∈ TW := TW_of (i := 1384) (by decide +kernel) (by decide +kernel)
theorem sl_X8_nightIncome : Cond.selects "TeaHouse" m_X8_nightIncome.1 m_X8_nightIncome.1 ∈ TW := TW_of (i := 1385) (by decide +kernel) (by decide +kernel)
theorem lb_X8_nightIncome : ∀ (own : String) (idx : Nat), LkB own idx m_X8_nightIncome 1 := fun _ _ => ⟨iw_X8, TW_of (i := 1386) (by decide +kernel) (by decide +kernel), ⟨by decide +kernel, by decide +kernel⟩, by decide +kernel, by decide⟩
theorem lk_L_106 : LkV "TeaHouseLaw" 106 "TeaHouse" m_X8_nightIncome 1 := ⟨TW_of (i := 1383) (by decide +kernel) (by decide +kernel), im_X8_nightIncome, sl_X8_nightIncome, lb_X8_nightIncome _ _⟩
theorem im_X8_nightByIncome : Cond.instanceMethod m_X8_nightByIncome.1 ∈ TW := TW_of (i := 1392) (by decide +kernel) (by decide +kernel)
theorem sl_X8_nightByIncome : Cond.selects "TeaHouse" m_X8_nightByIncome.1 m_X8_nightByIncome.1 ∈ TW := TW_of (i := 1393) (by decide +kernel) (by decide +kernel)
theorem lb_X8_nightByIncome : ∀ (own : String) (idx : Nat), LkB own idx m_X8_nightByIncome 1 := fun _ _ => ⟨iw_X8, TW_of (i := 1394) (by decide +kernel) (by decide +kernel), ⟨by decide +kernel, by decide +kernel⟩, by decide +kernel, by decide⟩
theorem lk_L_109 : LkV "TeaHouseLaw" 109 "TeaHouse" m_X8_nightByIncome 1 := ⟨TW_of (i := 1391) (by decide +kernel) (by decide +kernel), im_X8_nightByIncome, sl_X8_nightByIncome, lb_X8_nightByIncome _ _⟩
theorem im_X8_greatestIncome : Cond.instanceMethod m_X8_greatestIncome.1 ∈ TW := TW_of (i := 1407) (by decide +kernel) (by decide +kernel)
theorem sl_X8_greatestIncome : Cond.selects "TeaHouse" m_X8_greatestIncome.1 m_X8_greatestIncome.1 ∈ TW := TW_of (i := 1408) (by decide +kernel) (by decide +kernel)
theorem lb_X8_greatestIncome : ∀ (own : String) (idx : Nat), LkB own idx m_X8_greatestIncome 1 := fun _ _ => ⟨iw_X8, TW_of (i := 1409) (by decide +kernel) (by decide +kernel), ⟨by decide +kernel, by decide +kernel⟩, by decide +kernel, by decide⟩
theorem lk_L_112 : LkV "TeaHouseLaw" 112 "TeaHouse" m_X8_greatestIncome 1 := ⟨TW_of (i := 1406) (by decide +kernel) (by decide +kernel), im_X8_greatestIncome, sl_X8_greatestIncome, lb_X8_greatestIncome _ _⟩
theorem im_X8_greatestIncomeBySums : Cond.instanceMethod m_X8_greatestIncomeBySums.1 ∈ TW := TW_of (i := 1422) (by decide +kernel) (by decide +kernel)
theorem sl_X8_greatestIncomeBySums : Cond.selects "TeaHouse" m_X8_greatestIncomeBySums.1 m_X8_greatestIncomeBySums.1 ∈ TW := TW_of (i := 1423) (by decide +kernel) (by decide +kernel)
theorem lb_X8_greatestIncomeBySums : ∀ (own : String) (idx : Nat), LkB own idx m_X8_greatestIncomeBySums 1 := fun _ _ => ⟨iw_X8, TW_of (i := 1424) (by decide +kernel) (by decide +kernel), ⟨by decide +kernel, by decide +kernel⟩, by decide +kernel, by decide⟩
theorem lk_L_115 : LkV "TeaHouseLaw" 115 "TeaHouse" m_X8_greatestIncomeBySums 1 := ⟨TW_of (i := 1421) (by decide +kernel) (by decide +kernel), im_X8_greatestIncomeBySums, sl_X8_greatestIncomeBySums, lb_X8_greatestIncomeBySums _ _⟩
theorem im_X8_meanTemperature : Cond.instanceMethod m_X8_meanTemperature.1 ∈ TW := TW_of (i := 1444) (by decide +kernel) (by decide +kernel)
theorem sl_X8_meanTemperature : Cond.selects "TeaHouse" m_X8_meanTemperature.1 m_X8_meanTemperature.1 ∈ TW := TW_of (i := 1445) (by decide +kernel) (by decide +kernel)
theorem lb_X8_meanTemperature : ∀ (own : String) (idx : Nat), LkB own idx m_X8_meanTemperature 0 := fun _ _ => ⟨iw_X8, TW_of (i := 1446) (by decide +kernel) (by decide +kernel), ⟨by decide +kernel, by decide +kernel⟩, by decide +kernel, by decide⟩
theorem lk_L_118 : LkV "TeaHouseLaw" 118 "TeaHouse" m_X8_meanTemperature 0 := ⟨TW_of (i := 1443) (by decide +kernel) (by decide +kernel), im_X8_meanTemperature, sl_X8_meanTemperature, lb_X8_meanTemperature _ _⟩
theorem im_X8_lostShare : Cond.instanceMethod m_X8_lostShare.1 ∈ TW := TW_of (i := 1454) (by decide +kernel) (by decide +kernel)
theorem sl_X8_lostShare : Cond.selects "TeaHouse" m_X8_lostShare.1 m_X8_lostShare.1 ∈ TW := TW_of (i := 1455) (by decide +kernel) (by decide +kernel)
theorem lb_X8_lostShare : ∀ (own : String) (idx : Nat), LkB own idx m_X8_lostShare 0 := fun _ _ => ⟨iw_X8, TW_of (i := 1456) (by decide +kernel) (by decide +kernel), ⟨by decide +kernel, by decide +kernel⟩, by decide +kernel, by decide⟩
theorem lk_L_124 : LkV "TeaHouseLaw" 124 "TeaHouse" m_X8_lostShare 0 := ⟨TW_of (i := 1453) (by decide +kernel) (by decide +kernel), im_X8_lostShare, sl_X8_lostShare, lb_X8_lostShare _ _⟩
theorem im_X8_formatKettle : Cond.instanceMethod m_X8_formatKettle.1 ∈ TW := TW_of (i := 1462) (by decide +kernel) (by decide +kernel)
theorem sl_X8_formatKettle : Cond.selects "TeaHouse" m_X8_formatKettle.1 m_X8_formatKettle.1 ∈ TW := TW_of (i := 1463) (by decide +kernel) (by decide +kernel)
theorem lb_X8_formatKettle : ∀ (own : String) (idx : Nat), LkB own idx m_X8_formatKettle 1 := fun _ _ => ⟨iw_X8, TW_of (i := 1464) (by decide +kernel) (by decide +kernel), ⟨by decide +kernel, by decide +kernel⟩, by decide +kernel, by decide⟩
theorem lk_L_127 : LkV "TeaHouseLaw" 127 "TeaHouse" m_X8_formatKettle 1 := ⟨TW_of (i := 1461) (by decide +kernel) (by decide +kernel), im_X8_formatKettle, sl_X8_formatKettle, lb_X8_formatKettle _ _⟩
theorem im_X8_formatOrder : Cond.instanceMethod m_X8_formatOrder.1 ∈ TW := TW_of (i := 1477) (by decide +kernel) (by decide +kernel)
theorem sl_X8_formatOrder : Cond.selects "TeaHouse" m_X8_formatOrder.1 m_X8_formatOrder.1 ∈ TW := TW_of (i := 1478) (by decide +kernel) (by decide +kernel)
theorem lb_X8_formatOrder : ∀ (own : String) (idx : Nat), LkB own idx m_X8_formatOrder 1 := fun _ _ => ⟨iw_X8, TW_of (i := 1479) (by decide +kernel) (by decide +kernel), ⟨by decide +kernel, by decide +kernel⟩, by decide +kernel, by decide⟩
theorem lk_L_130 : LkV "TeaHouseLaw" 130 "TeaHouse" m_X8_formatOrder 1 := ⟨TW_of (i := 1476) (by decide +kernel) (by decide +kernel), im_X8_formatOrder, sl_X8_formatOrder, lb_X8_formatOrder _ _⟩
theorem im_X8_lineChar : Cond.instanceMethod m_X8_lineChar.1 ∈ TW := TW_of (i := 1493) (by decide +kernel) (by decide +kernel)
theorem sl_X8_lineChar : Cond.selects "TeaHouse" m_X8_lineChar.1 m_X8_lineChar.1 ∈ TW := TW_of (i := 1494) (by decide +kernel) (by decide +kernel)
theorem lb_X8_lineChar : ∀ (own : String) (idx : Nat), LkB own idx m_X8_lineChar 1 := fun _ _ => ⟨iw_X8, TW_of (i := 1495) (by decide +kernel) (by decide +kernel), ⟨by decide +kernel, by decide +kernel⟩, by decide +kernel, by decide⟩
theorem lk_L_133 : LkV "TeaHouseLaw" 133 "TeaHouse" m_X8_lineChar 1 := ⟨TW_of (i := 1492) (by decide +kernel) (by decide +kernel), im_X8_lineChar, sl_X8_lineChar, lb_X8_lineChar _ _⟩
theorem im_X8_append : Cond.instanceMethod m_X8_append.1 ∈ TW := TW_of (i := 1511) (by decide +kernel) (by decide +kernel)
theorem sl_X8_append : Cond.selects "TeaHouse" m_X8_append.1 m_X8_append.1 ∈ TW := TW_of (i := 1512) (by decide +kernel) (by decide +kernel)
theorem lb_X8_append : ∀ (own : String) (idx : Nat), LkB own idx m_X8_append 1 := fun _ _ => ⟨iw_X8, TW_of (i := 1513) (by decide +kernel) (by decide +kernel), ⟨by decide +kernel, by decide +kernel⟩, by decide +kernel, by decide⟩
theorem lk_L_137 : LkV "TeaHouseLaw" 137 "TeaHouse" m_X8_append 1 := ⟨TW_of (i := 1510) (by decide +kernel) (by decide +kernel), im_X8_append, sl_X8_append, lb_X8_append _ _⟩
theorem im_X8_run : Cond.instanceMethod m_X8_run.1 ∈ TW := TW_of (i := 1524) (by decide +kernel) (by decide +kernel)
theorem sl_X8_run : Cond.selects "TeaHouse" m_X8_run.1 m_X8_run.1 ∈ TW := TW_of (i := 1525) (by decide +kernel) (by decide +kernel)
theorem lb_X8_run : ∀ (own : String) (idx : Nat), LkB own idx m_X8_run 0 := fun _ _ => ⟨iw_X8, TW_of (i := 1526) (by decide +kernel) (by decide +kernel), ⟨by decide +kernel, by decide +kernel⟩, by decide +kernel, by decide⟩
theorem lk_L_141 : LkV "TeaHouseLaw" 141 "TeaHouse" m_X8_run 0 := ⟨TW_of (i := 1523) (by decide +kernel) (by decide +kernel), im_X8_run, sl_X8_run, lb_X8_run _ _⟩
theorem im_X8_errorPosition : Cond.instanceMethod m_X8_errorPosition.1 ∈ TW := TW_of (i := 1585) (by decide +kernel) (by decide +kernel)
theorem sl_X8_errorPosition : Cond.selects "TeaHouse" m_X8_errorPosition.1 m_X8_errorPosition.1 ∈ TW := TW_of (i := 1586) (by decide +kernel) (by decide +kernel)
theorem lb_X8_errorPosition : ∀ (own : String) (idx : Nat), LkB own idx m_X8_errorPosition 0 := fun _ _ => ⟨iw_X8, TW_of (i := 1587) (by decide +kernel) (by decide +kernel), ⟨by decide +kernel, by decide +kernel⟩, by decide +kernel, by decide⟩
theorem lk_L_144 : LkV "TeaHouseLaw" 144 "TeaHouse" m_X8_errorPosition 0 := ⟨TW_of (i := 1584) (by decide +kernel) (by decide +kernel), im_X8_errorPosition, sl_X8_errorPosition, lb_X8_errorPosition _ _⟩
theorem im_X8_failedCommand : Cond.instanceMethod m_X8_failedCommand.1 ∈ TW := TW_of (i := 1592) (by decide +kernel) (by decide +kernel)
theorem sl_X8_failedCommand : Cond.selects "TeaHouse" m_X8_failedCommand.1 m_X8_failedCommand.1 ∈ TW := TW_of (i := 1593) (by decide +kernel) (by decide +kernel)
theorem lb_X8_failedCommand : ∀ (own : String) (idx : Nat), LkB own idx m_X8_failedCommand 0 := fun _ _ => ⟨iw_X8, TW_of (i := 1594) (by decide +kernel) (by decide +kernel), ⟨by decide +kernel, by decide +kernel⟩, by decide +kernel, by decide⟩
theorem lk_L_147 : LkV "TeaHouseLaw" 147 "TeaHouse" m_X8_failedCommand 0 := ⟨TW_of (i := 1591) (by decide +kernel) (by decide +kernel), im_X8_failedCommand, sl_X8_failedCommand, lb_X8_failedCommand _ _⟩
theorem im_X8_undo : Cond.instanceMethod m_X8_undo.1 ∈ TW := TW_of (i := 1599) (by decide +kernel) (by decide +kernel)
theorem sl_X8_undo : Cond.selects "TeaHouse" m_X8_undo.1 m_X8_undo.1 ∈ TW := TW_of (i := 1600) (by decide +kernel) (by decide +kernel)
theorem lb_X8_undo : ∀ (own : String) (idx : Nat), LkB own idx m_X8_undo 0 := fun _ _ => ⟨iw_X8, TW_of (i := 1601) (by decide +kernel) (by decide +kernel), ⟨by decide +kernel, by decide +kernel⟩, by decide +kernel, by decide⟩
theorem lk_L_150 : LkV "TeaHouseLaw" 150 "TeaHouse" m_X8_undo 0 := ⟨TW_of (i := 1598) (by decide +kernel) (by decide +kernel), im_X8_undo, sl_X8_undo, lb_X8_undo _ _⟩
theorem im_X8_restore : Cond.instanceMethod m_X8_restore.1 ∈ TW := TW_of (i := 1607) (by decide +kernel) (by decide +kernel)
theorem sl_X8_restore : Cond.selects "TeaHouse" m_X8_restore.1 m_X8_restore.1 ∈ TW := TW_of (i := 1608) (by decide +kernel) (by decide +kernel)
theorem lb_X8_restore : ∀ (own : String) (idx : Nat), LkB own idx m_X8_restore 0 := fun _ _ => ⟨iw_X8, TW_of (i := 1609) (by decide +kernel) (by decide +kernel), ⟨by decide +kernel, by decide +kernel⟩, by decide +kernel, by decide⟩
theorem lk_L_153 : LkV "TeaHouseLaw" 153 "TeaHouse" m_X8_restore 0 := ⟨TW_of (i := 1606) (by decide +kernel) (by decide +kernel), im_X8_restore, sl_X8_restore, lb_X8_restore _ _⟩
theorem nw_L_8 : NW "TeaHouseLaw" 8 9 12 := ⟨_, rfl, by decide, rfl, TW_of (i := 108) (by decide +kernel) (by decide +kernel), TW_of (i := 109) (by decide +kernel) (by decide +kernel), TW_of (i := 74) (by decide +kernel) (by decide +kernel), nw_def 9 12 (by decide +kernel)⟩
theorem im_X8_init : Cond.instanceMethod m_X8_init.1 ∈ TW := TW_of (i := 111) (by decide +kernel) (by decide +kernel)
theorem lb_X8_init : ∀ (own : String) (idx : Nat), LkB own idx m_X8_init 0 := fun _ _ => ⟨iw_X8, TW_of (i := 112) (by decide +kernel) (by decide +kernel), ⟨by decide +kernel, by decide +kernel⟩, by decide +kernel, by decide⟩
theorem lk_L_156 : LkI "TeaHouseLaw" 156 m_X8_init 0 := ⟨TW_of (i := 110) (by decide +kernel) (by decide +kernel), im_X8_init, rfl, rfl, lb_X8_init _ _⟩
theorem nw_L_157 : NW "TeaHouseLaw" 157 10 15 := ⟨_, rfl, by decide, rfl, TW_of (i := 1611) (by decide +kernel) (by decide +kernel), TW_of (i := 1612) (by decide +kernel) (by decide +kernel), TW_of (i := 84) (by decide +kernel) (by decide +kernel), nw_def 10 15 (by decide +kernel)⟩
theorem im_X9_init : Cond.instanceMethod m_X9_init.1 ∈ TW := TW_of (i := 1614) (by decide +kernel) (by decide +kernel)
theorem lb_X9_init : ∀ (own : String) (idx : Nat), LkB own idx m_X9_init 0 := fun _ _ => ⟨iw_X9, TW_of (i := 1615) (by decide +kernel) (by decide +kernel), ⟨by decide +kernel, by decide +kernel⟩, by decide +kernel, by decide⟩
theorem lk_L_159 : LkI "TeaHouseLaw" 159 m_X9_init 0 := ⟨TW_of (i := 1613) (by decide +kernel) (by decide +kernel), im_X9_init, rfl, rfl, lb_X9_init _ _⟩
theorem im_X9_addKettle : Cond.instanceMethod m_X9_addKettle.1 ∈ TW := TW_of (i := 1668) (by decide +kernel) (by decide +kernel)
theorem sl_X9_addKettle : Cond.selects "TeaHouseModel" m_X9_addKettle.1 m_X9_addKettle.1 ∈ TW := TW_of (i := 1669) (by decide +kernel) (by decide +kernel)
theorem lb_X9_addKettle : ∀ (own : String) (idx : Nat), LkB own idx m_X9_addKettle 1 := fun _ _ => ⟨iw_X9, TW_of (i := 1670) (by decide +kernel) (by decide +kernel), ⟨by decide +kernel, by decide +kernel⟩, by decide +kernel, by decide⟩
theorem lk_L_165 : LkV "TeaHouseLaw" 165 "TeaHouseModel" m_X9_addKettle 1 := ⟨TW_of (i := 1667) (by decide +kernel) (by decide +kernel), im_X9_addKettle, sl_X9_addKettle, lb_X9_addKettle _ _⟩
theorem im_X9_thrown : Cond.instanceMethod m_X9_thrown.1 ∈ TW := TW_of (i := 1664) (by decide +kernel) (by decide +kernel)
theorem sl_X9_thrown : Cond.selects "TeaHouseModel" m_X9_thrown.1 m_X9_thrown.1 ∈ TW := TW_of (i := 1665) (by decide +kernel) (by decide +kernel)
theorem lb_X9_thrown : ∀ (own : String) (idx : Nat), LkB own idx m_X9_thrown 0 := fun _ _ => ⟨iw_X9, TW_of (i := 1666) (by decide +kernel) (by decide +kernel), ⟨by decide +kernel, by decide +kernel⟩, by decide +kernel, by decide⟩
theorem lk_L_166 : LkV "TeaHouseLaw" 166 "TeaHouseModel" m_X9_thrown 0 := ⟨TW_of (i := 1663) (by decide +kernel) (by decide +kernel), im_X9_thrown, sl_X9_thrown, lb_X9_thrown _ _⟩
theorem im_X9_fill : Cond.instanceMethod m_X9_fill.1 ∈ TW := TW_of (i := 1695) (by decide +kernel) (by decide +kernel)
theorem sl_X9_fill : Cond.selects "TeaHouseModel" m_X9_fill.1 m_X9_fill.1 ∈ TW := TW_of (i := 1696) (by decide +kernel) (by decide +kernel)
theorem lb_X9_fill : ∀ (own : String) (idx : Nat), LkB own idx m_X9_fill 2 := fun _ _ => ⟨iw_X9, TW_of (i := 1697) (by decide +kernel) (by decide +kernel), ⟨by decide +kernel, by decide +kernel⟩, by decide +kernel, by decide⟩
theorem lk_L_172 : LkV "TeaHouseLaw" 172 "TeaHouseModel" m_X9_fill 2 := ⟨TW_of (i := 1694) (by decide +kernel) (by decide +kernel), im_X9_fill, sl_X9_fill, lb_X9_fill _ _⟩
theorem im_X9_setBurner : Cond.instanceMethod m_X9_setBurner.1 ∈ TW := TW_of (i := 1714) (by decide +kernel) (by decide +kernel)
theorem sl_X9_setBurner : Cond.selects "TeaHouseModel" m_X9_setBurner.1 m_X9_setBurner.1 ∈ TW := TW_of (i := 1715) (by decide +kernel) (by decide +kernel)
theorem lb_X9_setBurner : ∀ (own : String) (idx : Nat), LkB own idx m_X9_setBurner 2 := fun _ _ => ⟨iw_X9, TW_of (i := 1716) (by decide +kernel) (by decide +kernel), ⟨by decide +kernel, by decide +kernel⟩, by decide +kernel, by decide⟩
theorem lk_L_176 : LkV "TeaHouseLaw" 176 "TeaHouseModel" m_X9_setBurner 2 := ⟨TW_of (i := 1713) (by decide +kernel) (by decide +kernel), im_X9_setBurner, sl_X9_setBurner, lb_X9_setBurner _ _⟩
theorem im_X9_order : Cond.instanceMethod m_X9_order.1 ∈ TW := TW_of (i := 1722) (by decide +kernel) (by decide +kernel)
theorem sl_X9_order : Cond.selects "TeaHouseModel" m_X9_order.1 m_X9_order.1 ∈ TW := TW_of (i := 1723) (by decide +kernel) (by decide +kernel)
theorem lb_X9_order : ∀ (own : String) (idx : Nat), LkB own idx m_X9_order 4 := fun _ _ => ⟨iw_X9, TW_of (i := 1724) (by decide +kernel) (by decide +kernel), ⟨by decide +kernel, by decide +kernel⟩, by decide +kernel, by decide⟩
theorem lk_L_180 : LkV "TeaHouseLaw" 180 "TeaHouseModel" m_X9_order 4 := ⟨TW_of (i := 1721) (by decide +kernel) (by decide +kernel), im_X9_order, sl_X9_order, lb_X9_order _ _⟩
theorem im_X9_cancel : Cond.instanceMethod m_X9_cancel.1 ∈ TW := TW_of (i := 1730) (by decide +kernel) (by decide +kernel)
theorem sl_X9_cancel : Cond.selects "TeaHouseModel" m_X9_cancel.1 m_X9_cancel.1 ∈ TW := TW_of (i := 1731) (by decide +kernel) (by decide +kernel)
theorem lb_X9_cancel : ∀ (own : String) (idx : Nat), LkB own idx m_X9_cancel 1 := fun _ _ => ⟨iw_X9, TW_of (i := 1732) (by decide +kernel) (by decide +kernel), ⟨by decide +kernel, by decide +kernel⟩, by decide +kernel, by decide⟩
theorem lk_L_183 : LkV "TeaHouseLaw" 183 "TeaHouseModel" m_X9_cancel 1 := ⟨TW_of (i := 1729) (by decide +kernel) (by decide +kernel), im_X9_cancel, sl_X9_cancel, lb_X9_cancel _ _⟩
theorem im_X9_serveNext : Cond.instanceMethod m_X9_serveNext.1 ∈ TW := TW_of (i := 1750) (by decide +kernel) (by decide +kernel)
theorem sl_X9_serveNext : Cond.selects "TeaHouseModel" m_X9_serveNext.1 m_X9_serveNext.1 ∈ TW := TW_of (i := 1751) (by decide +kernel) (by decide +kernel)
theorem lb_X9_serveNext : ∀ (own : String) (idx : Nat), LkB own idx m_X9_serveNext 0 := fun _ _ => ⟨iw_X9, TW_of (i := 1752) (by decide +kernel) (by decide +kernel), ⟨by decide +kernel, by decide +kernel⟩, by decide +kernel, by decide⟩
theorem lk_L_187 : LkV "TeaHouseLaw" 187 "TeaHouseModel" m_X9_serveNext 0 := ⟨TW_of (i := 1749) (by decide +kernel) (by decide +kernel), im_X9_serveNext, sl_X9_serveNext, lb_X9_serveNext _ _⟩
theorem im_X9_wash : Cond.instanceMethod m_X9_wash.1 ∈ TW := TW_of (i := 1782) (by decide +kernel) (by decide +kernel)
theorem sl_X9_wash : Cond.selects "TeaHouseModel" m_X9_wash.1 m_X9_wash.1 ∈ TW := TW_of (i := 1783) (by decide +kernel) (by decide +kernel)
theorem lb_X9_wash : ∀ (own : String) (idx : Nat), LkB own idx m_X9_wash 1 := fun _ _ => ⟨iw_X9, TW_of (i := 1784) (by decide +kernel) (by decide +kernel), ⟨by decide +kernel, by decide +kernel⟩, by decide +kernel, by decide⟩
theorem lk_L_190 : LkV "TeaHouseLaw" 190 "TeaHouseModel" m_X9_wash 1 := ⟨TW_of (i := 1781) (by decide +kernel) (by decide +kernel), im_X9_wash, sl_X9_wash, lb_X9_wash _ _⟩
theorem im_X9_sellSteam : Cond.instanceMethod m_X9_sellSteam.1 ∈ TW := TW_of (i := 1790) (by decide +kernel) (by decide +kernel)
theorem sl_X9_sellSteam : Cond.selects "TeaHouseModel" m_X9_sellSteam.1 m_X9_sellSteam.1 ∈ TW := TW_of (i := 1791) (by decide +kernel) (by decide +kernel)
theorem lb_X9_sellSteam : ∀ (own : String) (idx : Nat), LkB own idx m_X9_sellSteam 1 := fun _ _ => ⟨iw_X9, TW_of (i := 1792) (by decide +kernel) (by decide +kernel), ⟨by decide +kernel, by decide +kernel⟩, by decide +kernel, by decide⟩
theorem lk_L_194 : LkV "TeaHouseLaw" 194 "TeaHouseModel" m_X9_sellSteam 1 := ⟨TW_of (i := 1789) (by decide +kernel) (by decide +kernel), im_X9_sellSteam, sl_X9_sellSteam, lb_X9_sellSteam _ _⟩
theorem im_X9_setCupPrice : Cond.instanceMethod m_X9_setCupPrice.1 ∈ TW := TW_of (i := 1802) (by decide +kernel) (by decide +kernel)
theorem sl_X9_setCupPrice : Cond.selects "TeaHouseModel" m_X9_setCupPrice.1 m_X9_setCupPrice.1 ∈ TW := TW_of (i := 1803) (by decide +kernel) (by decide +kernel)
theorem lb_X9_setCupPrice : ∀ (own : String) (idx : Nat), LkB own idx m_X9_setCupPrice 1 := fun _ _ => ⟨iw_X9, TW_of (i := 1804) (by decide +kernel) (by decide +kernel), ⟨by decide +kernel, by decide +kernel⟩, by decide +kernel, by decide⟩
theorem lk_L_197 : LkV "TeaHouseLaw" 197 "TeaHouseModel" m_X9_setCupPrice 1 := ⟨TW_of (i := 1801) (by decide +kernel) (by decide +kernel), im_X9_setCupPrice, sl_X9_setCupPrice, lb_X9_setCupPrice _ _⟩
theorem im_X9_setSteamPrice : Cond.instanceMethod m_X9_setSteamPrice.1 ∈ TW := TW_of (i := 1810) (by decide +kernel) (by decide +kernel)
theorem sl_X9_setSteamPrice : Cond.selects "TeaHouseModel" m_X9_setSteamPrice.1 m_X9_setSteamPrice.1 ∈ TW := TW_of (i := 1811) (by decide +kernel) (by decide +kernel)
theorem lb_X9_setSteamPrice : ∀ (own : String) (idx : Nat), LkB own idx m_X9_setSteamPrice 1 := fun _ _ => ⟨iw_X9, TW_of (i := 1812) (by decide +kernel) (by decide +kernel), ⟨by decide +kernel, by decide +kernel⟩, by decide +kernel, by decide⟩
theorem lk_L_200 : LkV "TeaHouseLaw" 200 "TeaHouseModel" m_X9_setSteamPrice 1 := ⟨TW_of (i := 1809) (by decide +kernel) (by decide +kernel), im_X9_setSteamPrice, sl_X9_setSteamPrice, lb_X9_setSteamPrice _ _⟩
theorem im_X8_setAttendant : Cond.instanceMethod m_X8_setAttendant.1 ∈ TW := TW_of (i := 383) (by decide +kernel) (by decide +kernel)
theorem sl_X8_setAttendant : Cond.selects "TeaHouse" m_X8_setAttendant.1 m_X8_setAttendant.1 ∈ TW := TW_of (i := 384) (by decide +kernel) (by decide +kernel)
theorem lb_X8_setAttendant : ∀ (own : String) (idx : Nat), LkB own idx m_X8_setAttendant 1 := fun _ _ => ⟨iw_X8, TW_of (i := 385) (by decide +kernel) (by decide +kernel), ⟨by decide +kernel, by decide +kernel⟩, by decide +kernel, by decide⟩
theorem lk_L_201 : LkV "TeaHouseLaw" 201 "TeaHouse" m_X8_setAttendant 1 := ⟨TW_of (i := 382) (by decide +kernel) (by decide +kernel), im_X8_setAttendant, sl_X8_setAttendant, lb_X8_setAttendant _ _⟩
theorem im_X9_setAttendant : Cond.instanceMethod m_X9_setAttendant.1 ∈ TW := TW_of (i := 1814) (by decide +kernel) (by decide +kernel)
theorem sl_X9_setAttendant : Cond.selects "TeaHouseModel" m_X9_setAttendant.1 m_X9_setAttendant.1 ∈ TW := TW_of (i := 1815) (by decide +kernel) (by decide +kernel)
theorem lb_X9_setAttendant : ∀ (own : String) (idx : Nat), LkB own idx m_X9_setAttendant 1 := fun _ _ => ⟨iw_X9, TW_of (i := 1816) (by decide +kernel) (by decide +kernel), ⟨by decide +kernel, by decide +kernel⟩, by decide +kernel, by decide⟩
theorem lk_L_205 : LkV "TeaHouseLaw" 205 "TeaHouseModel" m_X9_setAttendant 1 := ⟨TW_of (i := 1813) (by decide +kernel) (by decide +kernel), im_X9_setAttendant, sl_X9_setAttendant, lb_X9_setAttendant _ _⟩
theorem im_X9_pass : Cond.instanceMethod m_X9_pass.1 ∈ TW := TW_of (i := 1822) (by decide +kernel) (by decide +kernel)
theorem sl_X9_pass : Cond.selects "TeaHouseModel" m_X9_pass.1 m_X9_pass.1 ∈ TW := TW_of (i := 1823) (by decide +kernel) (by decide +kernel)
theorem lb_X9_pass : ∀ (own : String) (idx : Nat), LkB own idx m_X9_pass 1 := fun _ _ => ⟨iw_X9, TW_of (i := 1824) (by decide +kernel) (by decide +kernel), ⟨by decide +kernel, by decide +kernel⟩, by decide +kernel, by decide⟩
theorem lk_L_208 : LkV "TeaHouseLaw" 208 "TeaHouseModel" m_X9_pass 1 := ⟨TW_of (i := 1821) (by decide +kernel) (by decide +kernel), im_X9_pass, sl_X9_pass, lb_X9_pass _ _⟩
theorem im_X9_closeNight : Cond.instanceMethod m_X9_closeNight.1 ∈ TW := TW_of (i := 1834) (by decide +kernel) (by decide +kernel)
theorem sl_X9_closeNight : Cond.selects "TeaHouseModel" m_X9_closeNight.1 m_X9_closeNight.1 ∈ TW := TW_of (i := 1835) (by decide +kernel) (by decide +kernel)
theorem lb_X9_closeNight : ∀ (own : String) (idx : Nat), LkB own idx m_X9_closeNight 0 := fun _ _ => ⟨iw_X9, TW_of (i := 1836) (by decide +kernel) (by decide +kernel), ⟨by decide +kernel, by decide +kernel⟩, by decide +kernel, by decide⟩
theorem lk_L_212 : LkV "TeaHouseLaw" 212 "TeaHouseModel" m_X9_closeNight 0 := ⟨TW_of (i := 1833) (by decide +kernel) (by decide +kernel), im_X9_closeNight, sl_X9_closeNight, lb_X9_closeNight _ _⟩
theorem im_X8_kettleCount : Cond.instanceMethod m_X8_kettleCount.1 ∈ TW := TW_of (i := 674) (by decide +kernel) (by decide +kernel)
theorem sl_X8_kettleCount : Cond.selects "TeaHouse" m_X8_kettleCount.1 m_X8_kettleCount.1 ∈ TW := TW_of (i := 675) (by decide +kernel) (by decide +kernel)
theorem lb_X8_kettleCount : ∀ (own : String) (idx : Nat), LkB own idx m_X8_kettleCount 0 := fun _ _ => ⟨iw_X8, TW_of (i := 676) (by decide +kernel) (by decide +kernel), ⟨by decide +kernel, by decide +kernel⟩, by decide +kernel, by decide⟩
theorem lk_L_213 : LkV "TeaHouseLaw" 213 "TeaHouse" m_X8_kettleCount 0 := ⟨TW_of (i := 673) (by decide +kernel) (by decide +kernel), im_X8_kettleCount, sl_X8_kettleCount, lb_X8_kettleCount _ _⟩
theorem im_X9_kettleCount : Cond.instanceMethod m_X9_kettleCount.1 ∈ TW := TW_of (i := 1842) (by decide +kernel) (by decide +kernel)
theorem sl_X9_kettleCount : Cond.selects "TeaHouseModel" m_X9_kettleCount.1 m_X9_kettleCount.1 ∈ TW := TW_of (i := 1843) (by decide +kernel) (by decide +kernel)
theorem lb_X9_kettleCount : ∀ (own : String) (idx : Nat), LkB own idx m_X9_kettleCount 0 := fun _ _ => ⟨iw_X9, TW_of (i := 1844) (by decide +kernel) (by decide +kernel), ⟨by decide +kernel, by decide +kernel⟩, by decide +kernel, by decide⟩
theorem lk_L_216 : LkV "TeaHouseLaw" 216 "TeaHouseModel" m_X9_kettleCount 0 := ⟨TW_of (i := 1841) (by decide +kernel) (by decide +kernel), im_X9_kettleCount, sl_X9_kettleCount, lb_X9_kettleCount _ _⟩
theorem im_X9_capacity : Cond.instanceMethod m_X9_capacity.1 ∈ TW := TW_of (i := 1850) (by decide +kernel) (by decide +kernel)
theorem sl_X9_capacity : Cond.selects "TeaHouseModel" m_X9_capacity.1 m_X9_capacity.1 ∈ TW := TW_of (i := 1851) (by decide +kernel) (by decide +kernel)
theorem lb_X9_capacity : ∀ (own : String) (idx : Nat), LkB own idx m_X9_capacity 1 := fun _ _ => ⟨iw_X9, TW_of (i := 1852) (by decide +kernel) (by decide +kernel), ⟨by decide +kernel, by decide +kernel⟩, by decide +kernel, by decide⟩
theorem lk_L_219 : LkV "TeaHouseLaw" 219 "TeaHouseModel" m_X9_capacity 1 := ⟨TW_of (i := 1849) (by decide +kernel) (by decide +kernel), im_X9_capacity, sl_X9_capacity, lb_X9_capacity _ _⟩
theorem im_X9_volume : Cond.instanceMethod m_X9_volume.1 ∈ TW := TW_of (i := 1862) (by decide +kernel) (by decide +kernel)
theorem sl_X9_volume : Cond.selects "TeaHouseModel" m_X9_volume.1 m_X9_volume.1 ∈ TW := TW_of (i := 1863) (by decide +kernel) (by decide +kernel)
theorem lb_X9_volume : ∀ (own : String) (idx : Nat), LkB own idx m_X9_volume 1 := fun _ _ => ⟨iw_X9, TW_of (i := 1864) (by decide +kernel) (by decide +kernel), ⟨by decide +kernel, by decide +kernel⟩, by decide +kernel, by decide⟩
theorem lk_L_222 : LkV "TeaHouseLaw" 222 "TeaHouseModel" m_X9_volume 1 := ⟨TW_of (i := 1861) (by decide +kernel) (by decide +kernel), im_X9_volume, sl_X9_volume, lb_X9_volume _ _⟩
theorem im_X9_temperature : Cond.instanceMethod m_X9_temperature.1 ∈ TW := TW_of (i := 1866) (by decide +kernel) (by decide +kernel)
theorem sl_X9_temperature : Cond.selects "TeaHouseModel" m_X9_temperature.1 m_X9_temperature.1 ∈ TW := TW_of (i := 1867) (by decide +kernel) (by decide +kernel)
theorem lb_X9_temperature : ∀ (own : String) (idx : Nat), LkB own idx m_X9_temperature 1 := fun _ _ => ⟨iw_X9, TW_of (i := 1868) (by decide +kernel) (by decide +kernel), ⟨by decide +kernel, by decide +kernel⟩, by decide +kernel, by decide⟩
theorem lk_L_225 : LkV "TeaHouseLaw" 225 "TeaHouseModel" m_X9_temperature 1 := ⟨TW_of (i := 1865) (by decide +kernel) (by decide +kernel), im_X9_temperature, sl_X9_temperature, lb_X9_temperature _ _⟩
theorem im_X9_temperatureBits : Cond.instanceMethod m_X9_temperatureBits.1 ∈ TW := TW_of (i := 1870) (by decide +kernel) (by decide +kernel)
theorem sl_X9_temperatureBits : Cond.selects "TeaHouseModel" m_X9_temperatureBits.1 m_X9_temperatureBits.1 ∈ TW := TW_of (i := 1871) (by decide +kernel) (by decide +kernel)
theorem lb_X9_temperatureBits : ∀ (own : String) (idx : Nat), LkB own idx m_X9_temperatureBits 1 := fun _ _ => ⟨iw_X9, TW_of (i := 1872) (by decide +kernel) (by decide +kernel), ⟨by decide +kernel, by decide +kernel⟩, by decide +kernel, by decide⟩
theorem lk_L_228 : LkV "TeaHouseLaw" 228 "TeaHouseModel" m_X9_temperatureBits 1 := ⟨TW_of (i := 1869) (by decide +kernel) (by decide +kernel), im_X9_temperatureBits, sl_X9_temperatureBits, lb_X9_temperatureBits _ _⟩
theorem im_X9_burner : Cond.instanceMethod m_X9_burner.1 ∈ TW := TW_of (i := 1884) (by decide +kernel) (by decide +kernel)
theorem sl_X9_burner : Cond.selects "TeaHouseModel" m_X9_burner.1 m_X9_burner.1 ∈ TW := TW_of (i := 1885) (by decide +kernel) (by decide +kernel)
theorem lb_X9_burner : ∀ (own : String) (idx : Nat), LkB own idx m_X9_burner 1 := fun _ _ => ⟨iw_X9, TW_of (i := 1886) (by decide +kernel) (by decide +kernel), ⟨by decide +kernel, by decide +kernel⟩, by decide +kernel, by decide⟩
theorem lk_L_231 : LkV "TeaHouseLaw" 231 "TeaHouseModel" m_X9_burner 1 := ⟨TW_of (i := 1883) (by decide +kernel) (by decide +kernel), im_X9_burner, sl_X9_burner, lb_X9_burner _ _⟩
theorem im_X9_isBoiling : Cond.instanceMethod m_X9_isBoiling.1 ∈ TW := TW_of (i := 1888) (by decide +kernel) (by decide +kernel)
theorem sl_X9_isBoiling : Cond.selects "TeaHouseModel" m_X9_isBoiling.1 m_X9_isBoiling.1 ∈ TW := TW_of (i := 1889) (by decide +kernel) (by decide +kernel)
theorem lb_X9_isBoiling : ∀ (own : String) (idx : Nat), LkB own idx m_X9_isBoiling 1 := fun _ _ => ⟨iw_X9, TW_of (i := 1890) (by decide +kernel) (by decide +kernel), ⟨by decide +kernel, by decide +kernel⟩, by decide +kernel, by decide⟩
theorem lk_L_234 : LkV "TeaHouseLaw" 234 "TeaHouseModel" m_X9_isBoiling 1 := ⟨TW_of (i := 1887) (by decide +kernel) (by decide +kernel), im_X9_isBoiling, sl_X9_isBoiling, lb_X9_isBoiling _ _⟩
theorem lk_L_237 : LkV "TeaHouseLaw" 237 "TeaHouseModel" m_X9_minutesUntilBoiling 1 := ⟨TW_of (i := 1891) (by decide +kernel) (by decide +kernel), im_X9_minutesUntilBoiling, sl_X9_minutesUntilBoiling, lb_X9_minutesUntilBoiling _ _⟩
theorem im_X9_minutesUntilBoilingByMinutes : Cond.instanceMethod m_X9_minutesUntilBoilingByMinutes.1 ∈ TW := TW_of (i := 1896) (by decide +kernel) (by decide +kernel)
theorem sl_X9_minutesUntilBoilingByMinutes : Cond.selects "TeaHouseModel" m_X9_minutesUntilBoilingByMinutes.1 m_X9_minutesUntilBoilingByMinutes.1 ∈ TW := TW_of (i := 1897) (by decide +kernel) (by decide +kernel)
theorem lb_X9_minutesUntilBoilingByMinutes : ∀ (own : String) (idx : Nat), LkB own idx m_X9_minutesUntilBoilingByMinutes 1 := fun _ _ => ⟨iw_X9, TW_of (i := 1898) (by decide +kernel) (by decide +kernel), ⟨by decide +kernel, by decide +kernel⟩, by decide +kernel, by decide⟩
theorem lk_L_240 : LkV "TeaHouseLaw" 240 "TeaHouseModel" m_X9_minutesUntilBoilingByMinutes 1 := ⟨TW_of (i := 1895) (by decide +kernel) (by decide +kernel), im_X9_minutesUntilBoilingByMinutes, sl_X9_minutesUntilBoilingByMinutes, lb_X9_minutesUntilBoilingByMinutes _ _⟩
theorem im_X9_kettleByTemperature : Cond.instanceMethod m_X9_kettleByTemperature.1 ∈ TW := TW_of (i := 1901) (by decide +kernel) (by decide +kernel)
theorem sl_X9_kettleByTemperature : Cond.selects "TeaHouseModel" m_X9_kettleByTemperature.1 m_X9_kettleByTemperature.1 ∈ TW := TW_of (i := 1902) (by decide +kernel) (by decide +kernel)
theorem lb_X9_kettleByTemperature : ∀ (own : String) (idx : Nat), LkB own idx m_X9_kettleByTemperature 1 := fun _ _ => ⟨iw_X9, TW_of (i := 1903) (by decide +kernel) (by decide +kernel), ⟨by decide +kernel, by decide +kernel⟩, by decide +kernel, by decide⟩
theorem lk_L_243 : LkV "TeaHouseLaw" 243 "TeaHouseModel" m_X9_kettleByTemperature 1 := ⟨TW_of (i := 1900) (by decide +kernel) (by decide +kernel), im_X9_kettleByTemperature, sl_X9_kettleByTemperature, lb_X9_kettleByTemperature _ _⟩
theorem im_X8_waitingCount : Cond.instanceMethod m_X8_waitingCount.1 ∈ TW := TW_of (i := 678) (by decide +kernel) (by decide +kernel)
theorem sl_X8_waitingCount : Cond.selects "TeaHouse" m_X8_waitingCount.1 m_X8_waitingCount.1 ∈ TW := TW_of (i := 679) (by decide +kernel) (by decide +kernel)
theorem lb_X8_waitingCount : ∀ (own : String) (idx : Nat), LkB own idx m_X8_waitingCount 0 := fun _ _ => ⟨iw_X8, TW_of (i := 680) (by decide +kernel) (by decide +kernel), ⟨by decide +kernel, by decide +kernel⟩, by decide +kernel, by decide⟩
theorem lk_L_244 : LkV "TeaHouseLaw" 244 "TeaHouse" m_X8_waitingCount 0 := ⟨TW_of (i := 677) (by decide +kernel) (by decide +kernel), im_X8_waitingCount, sl_X8_waitingCount, lb_X8_waitingCount _ _⟩
theorem im_X9_waitingCount : Cond.instanceMethod m_X9_waitingCount.1 ∈ TW := TW_of (i := 1905) (by decide +kernel) (by decide +kernel)
theorem sl_X9_waitingCount : Cond.selects "TeaHouseModel" m_X9_waitingCount.1 m_X9_waitingCount.1 ∈ TW := TW_of (i := 1906) (by decide +kernel) (by decide +kernel)
theorem lb_X9_waitingCount : ∀ (own : String) (idx : Nat), LkB own idx m_X9_waitingCount 0 := fun _ _ => ⟨iw_X9, TW_of (i := 1907) (by decide +kernel) (by decide +kernel), ⟨by decide +kernel, by decide +kernel⟩, by decide +kernel, by decide⟩
theorem lk_L_247 : LkV "TeaHouseLaw" 247 "TeaHouseModel" m_X9_waitingCount 0 := ⟨TW_of (i := 1904) (by decide +kernel) (by decide +kernel), im_X9_waitingCount, sl_X9_waitingCount, lb_X9_waitingCount _ _⟩
theorem im_X9_orderAt : Cond.instanceMethod m_X9_orderAt.1 ∈ TW := TW_of (i := 1909) (by decide +kernel) (by decide +kernel)
theorem sl_X9_orderAt : Cond.selects "TeaHouseModel" m_X9_orderAt.1 m_X9_orderAt.1 ∈ TW := TW_of (i := 1910) (by decide +kernel) (by decide +kernel)
theorem lb_X9_orderAt : ∀ (own : String) (idx : Nat), LkB own idx m_X9_orderAt 1 := fun _ _ => ⟨iw_X9, TW_of (i := 1911) (by decide +kernel) (by decide +kernel), ⟨by decide +kernel, by decide +kernel⟩, by decide +kernel, by decide⟩
theorem lk_L_250 : LkV "TeaHouseLaw" 250 "TeaHouseModel" m_X9_orderAt 1 := ⟨TW_of (i := 1908) (by decide +kernel) (by decide +kernel), im_X9_orderAt, sl_X9_orderAt, lb_X9_orderAt _ _⟩
theorem im_X9_positionOf : Cond.instanceMethod m_X9_positionOf.1 ∈ TW := TW_of (i := 1913) (by decide +kernel) (by decide +kernel)
theorem sl_X9_positionOf : Cond.selects "TeaHouseModel" m_X9_positionOf.1 m_X9_positionOf.1 ∈ TW := TW_of (i := 1914) (by decide +kernel) (by decide +kernel)
theorem lb_X9_positionOf : ∀ (own : String) (idx : Nat), LkB own idx m_X9_positionOf 1 := fun _ _ => ⟨iw_X9, TW_of (i := 1915) (by decide +kernel) (by decide +kernel), ⟨by decide +kernel, by decide +kernel⟩, by decide +kernel, by decide⟩
theorem lk_L_253 : LkV "TeaHouseLaw" 253 "TeaHouseModel" m_X9_positionOf 1 := ⟨TW_of (i := 1912) (by decide +kernel) (by decide +kernel), im_X9_positionOf, sl_X9_positionOf, lb_X9_positionOf _ _⟩
theorem im_X9_cupsOf : Cond.instanceMethod m_X9_cupsOf.1 ∈ TW := TW_of (i := 1917) (by decide +kernel) (by decide +kernel)
theorem sl_X9_cupsOf : Cond.selects "TeaHouseModel" m_X9_cupsOf.1 m_X9_cupsOf.1 ∈ TW := TW_of (i := 1918) (by decide +kernel) (by decide +kernel)
theorem lb_X9_cupsOf : ∀ (own : String) (idx : Nat), LkB own idx m_X9_cupsOf 1 := fun _ _ => ⟨iw_X9, TW_of (i := 1919) (by decide +kernel) (by decide +kernel), ⟨by decide +kernel, by decide +kernel⟩, by decide +kernel, by decide⟩
theorem lk_L_256 : LkV "TeaHouseLaw" 256 "TeaHouseModel" m_X9_cupsOf 1 := ⟨TW_of (i := 1916) (by decide +kernel) (by decide +kernel), im_X9_cupsOf, sl_X9_cupsOf, lb_X9_cupsOf _ _⟩
theorem im_X9_priceOf : Cond.instanceMethod m_X9_priceOf.1 ∈ TW := TW_of (i := 1925) (by decide +kernel) (by decide +kernel)
theorem sl_X9_priceOf : Cond.selects "TeaHouseModel" m_X9_priceOf.1 m_X9_priceOf.1 ∈ TW := TW_of (i := 1926) (by decide +kernel) (by decide +kernel)
theorem lb_X9_priceOf : ∀ (own : String) (idx : Nat), LkB own idx m_X9_priceOf 1 := fun _ _ => ⟨iw_X9, TW_of (i := 1927) (by decide +kernel) (by decide +kernel), ⟨by decide +kernel, by decide +kernel⟩, by decide +kernel, by decide⟩
theorem lk_L_259 : LkV "TeaHouseLaw" 259 "TeaHouseModel" m_X9_priceOf 1 := ⟨TW_of (i := 1924) (by decide +kernel) (by decide +kernel), im_X9_priceOf, sl_X9_priceOf, lb_X9_priceOf _ _⟩
theorem im_X9_kettleFor : Cond.instanceMethod m_X9_kettleFor.1 ∈ TW := TW_of (i := 1929) (by decide +kernel) (by decide +kernel)
theorem sl_X9_kettleFor : Cond.selects "TeaHouseModel" m_X9_kettleFor.1 m_X9_kettleFor.1 ∈ TW := TW_of (i := 1930) (by decide +kernel) (by decide +kernel)
theorem lb_X9_kettleFor : ∀ (own : String) (idx : Nat), LkB own idx m_X9_kettleFor 1 := fun _ _ => ⟨iw_X9, TW_of (i := 1931) (by decide +kernel) (by decide +kernel), ⟨by decide +kernel, by decide +kernel⟩, by decide +kernel, by decide⟩
theorem lk_L_262 : LkV "TeaHouseLaw" 262 "TeaHouseModel" m_X9_kettleFor 1 := ⟨TW_of (i := 1928) (by decide +kernel) (by decide +kernel), im_X9_kettleFor, sl_X9_kettleFor, lb_X9_kettleFor _ _⟩
theorem im_X9_minutesUntilSuitable : Cond.instanceMethod m_X9_minutesUntilSuitable.1 ∈ TW := TW_of (i := 1933) (by decide +kernel) (by decide +kernel)
theorem sl_X9_minutesUntilSuitable : Cond.selects "TeaHouseModel" m_X9_minutesUntilSuitable.1 m_X9_minutesUntilSuitable.1 ∈ TW := TW_of (i := 1934) (by decide +kernel) (by decide +kernel)
theorem lb_X9_minutesUntilSuitable : ∀ (own : String) (idx : Nat), LkB own idx m_X9_minutesUntilSuitable 1 := fun _ _ => ⟨iw_X9, TW_of (i := 1935) (by decide +kernel) (by decide +kernel), ⟨by decide +kernel, by decide +kernel⟩, by decide +kernel, by decide⟩
theorem lk_L_265 : LkV "TeaHouseLaw" 265 "TeaHouseModel" m_X9_minutesUntilSuitable 1 := ⟨TW_of (i := 1932) (by decide +kernel) (by decide +kernel), im_X9_minutesUntilSuitable, sl_X9_minutesUntilSuitable, lb_X9_minutesUntilSuitable _ _⟩
theorem im_X8_canServe : Cond.instanceMethod m_X8_canServe.1 ∈ TW := TW_of (i := 682) (by decide +kernel) (by decide +kernel)
theorem sl_X8_canServe : Cond.selects "TeaHouse" m_X8_canServe.1 m_X8_canServe.1 ∈ TW := TW_of (i := 683) (by decide +kernel) (by decide +kernel)
theorem lb_X8_canServe : ∀ (own : String) (idx : Nat), LkB own idx m_X8_canServe 0 := fun _ _ => ⟨iw_X8, TW_of (i := 684) (by decide +kernel) (by decide +kernel), ⟨by decide +kernel, by decide +kernel⟩, by decide +kernel, by decide⟩
theorem lk_L_266 : LkV "TeaHouseLaw" 266 "TeaHouse" m_X8_canServe 0 := ⟨TW_of (i := 681) (by decide +kernel) (by decide +kernel), im_X8_canServe, sl_X8_canServe, lb_X8_canServe _ _⟩
theorem im_X9_canServe : Cond.instanceMethod m_X9_canServe.1 ∈ TW := TW_of (i := 1937) (by decide +kernel) (by decide +kernel)
theorem sl_X9_canServe : Cond.selects "TeaHouseModel" m_X9_canServe.1 m_X9_canServe.1 ∈ TW := TW_of (i := 1938) (by decide +kernel) (by decide +kernel)
theorem lb_X9_canServe : ∀ (own : String) (idx : Nat), LkB own idx m_X9_canServe 0 := fun _ _ => ⟨iw_X9, TW_of (i := 1939) (by decide +kernel) (by decide +kernel), ⟨by decide +kernel, by decide +kernel⟩, by decide +kernel, by decide⟩
theorem lk_L_270 : LkV "TeaHouseLaw" 270 "TeaHouseModel" m_X9_canServe 0 := ⟨TW_of (i := 1936) (by decide +kernel) (by decide +kernel), im_X9_canServe, sl_X9_canServe, lb_X9_canServe _ _⟩
theorem im_X8_cleanCups : Cond.instanceMethod m_X8_cleanCups.1 ∈ TW := TW_of (i := 689) (by decide +kernel) (by decide +kernel)
theorem sl_X8_cleanCups : Cond.selects "TeaHouse" m_X8_cleanCups.1 m_X8_cleanCups.1 ∈ TW := TW_of (i := 690) (by decide +kernel) (by decide +kernel)
theorem lb_X8_cleanCups : ∀ (own : String) (idx : Nat), LkB own idx m_X8_cleanCups 0 := fun _ _ => ⟨iw_X8, TW_of (i := 691) (by decide +kernel) (by decide +kernel), ⟨by decide +kernel, by decide +kernel⟩, by decide +kernel, by decide⟩
theorem lk_L_271 : LkV "TeaHouseLaw" 271 "TeaHouse" m_X8_cleanCups 0 := ⟨TW_of (i := 688) (by decide +kernel) (by decide +kernel), im_X8_cleanCups, sl_X8_cleanCups, lb_X8_cleanCups _ _⟩
theorem im_X9_cleanCups : Cond.instanceMethod m_X9_cleanCups.1 ∈ TW := TW_of (i := 1941) (by decide +kernel) (by decide +kernel)
theorem sl_X9_cleanCups : Cond.selects "TeaHouseModel" m_X9_cleanCups.1 m_X9_cleanCups.1 ∈ TW := TW_of (i := 1942) (by decide +kernel) (by decide +kernel)
theorem lb_X9_cleanCups : ∀ (own : String) (idx : Nat), LkB own idx m_X9_cleanCups 0 := fun _ _ => ⟨iw_X9, TW_of (i := 1943) (by decide +kernel) (by decide +kernel), ⟨by decide +kernel, by decide +kernel⟩, by decide +kernel, by decide⟩
theorem lk_L_274 : LkV "TeaHouseLaw" 274 "TeaHouseModel" m_X9_cleanCups 0 := ⟨TW_of (i := 1940) (by decide +kernel) (by decide +kernel), im_X9_cleanCups, sl_X9_cleanCups, lb_X9_cleanCups _ _⟩
theorem im_X8_steam : Cond.instanceMethod m_X8_steam.1 ∈ TW := TW_of (i := 693) (by decide +kernel) (by decide +kernel)
theorem sl_X8_steam : Cond.selects "TeaHouse" m_X8_steam.1 m_X8_steam.1 ∈ TW := TW_of (i := 694) (by decide +kernel) (by decide +kernel)
theorem lb_X8_steam : ∀ (own : String) (idx : Nat), LkB own idx m_X8_steam 0 := fun _ _ => ⟨iw_X8, TW_of (i := 695) (by decide +kernel) (by decide +kernel), ⟨by decide +kernel, by decide +kernel⟩, by decide +kernel, by decide⟩
theorem lk_L_275 : LkV "TeaHouseLaw" 275 "TeaHouse" m_X8_steam 0 := ⟨TW_of (i := 692) (by decide +kernel) (by decide +kernel), im_X8_steam, sl_X8_steam, lb_X8_steam _ _⟩
theorem im_X9_steam : Cond.instanceMethod m_X9_steam.1 ∈ TW := TW_of (i := 1945) (by decide +kernel) (by decide +kernel)
theorem sl_X9_steam : Cond.selects "TeaHouseModel" m_X9_steam.1 m_X9_steam.1 ∈ TW := TW_of (i := 1946) (by decide +kernel) (by decide +kernel)
theorem lb_X9_steam : ∀ (own : String) (idx : Nat), LkB own idx m_X9_steam 0 := fun _ _ => ⟨iw_X9, TW_of (i := 1947) (by decide +kernel) (by decide +kernel), ⟨by decide +kernel, by decide +kernel⟩, by decide +kernel, by decide⟩
theorem lk_L_278 : LkV "TeaHouseLaw" 278 "TeaHouseModel" m_X9_steam 0 := ⟨TW_of (i := 1944) (by decide +kernel) (by decide +kernel), im_X9_steam, sl_X9_steam, lb_X9_steam _ _⟩
theorem im_X8_boiledTotal : Cond.instanceMethod m_X8_boiledTotal.1 ∈ TW := TW_of (i := 701) (by decide +kernel) (by decide +kernel)
theorem sl_X8_boiledTotal : Cond.selects "TeaHouse" m_X8_boiledTotal.1 m_X8_boiledTotal.1 ∈ TW := TW_of (i := 702) (by decide +kernel) (by decide +kernel)
theorem lb_X8_boiledTotal : ∀ (own : String) (idx : Nat), LkB own idx m_X8_boiledTotal 0 := fun _ _ => ⟨iw_X8, TW_of (i := 703) (by decide +kernel) (by decide +kernel), ⟨by decide +kernel, by decide +kernel⟩, by decide +kernel, by decide⟩
theorem lk_L_279 : LkV "TeaHouseLaw" 279 "TeaHouse" m_X8_boiledTotal 0 := ⟨TW_of (i := 700) (by decide +kernel) (by decide +kernel), im_X8_boiledTotal, sl_X8_boiledTotal, lb_X8_boiledTotal _ _⟩
theorem im_X9_boiledTotal : Cond.instanceMethod m_X9_boiledTotal.1 ∈ TW := TW_of (i := 1949) (by decide +kernel) (by decide +kernel)
theorem sl_X9_boiledTotal : Cond.selects "TeaHouseModel" m_X9_boiledTotal.1 m_X9_boiledTotal.1 ∈ TW := TW_of (i := 1950) (by decide +kernel) (by decide +kernel)
theorem lb_X9_boiledTotal : ∀ (own : String) (idx : Nat), LkB own idx m_X9_boiledTotal 0 := fun _ _ => ⟨iw_X9, TW_of (i := 1951) (by decide +kernel) (by decide +kernel), ⟨by decide +kernel, by decide +kernel⟩, by decide +kernel, by decide⟩
theorem lk_L_282 : LkV "TeaHouseLaw" 282 "TeaHouseModel" m_X9_boiledTotal 0 := ⟨TW_of (i := 1948) (by decide +kernel) (by decide +kernel), im_X9_boiledTotal, sl_X9_boiledTotal, lb_X9_boiledTotal _ _⟩
theorem im_X8_pouredTotal : Cond.instanceMethod m_X8_pouredTotal.1 ∈ TW := TW_of (i := 705) (by decide +kernel) (by decide +kernel)
theorem sl_X8_pouredTotal : Cond.selects "TeaHouse" m_X8_pouredTotal.1 m_X8_pouredTotal.1 ∈ TW := TW_of (i := 706) (by decide +kernel) (by decide +kernel)
theorem lb_X8_pouredTotal : ∀ (own : String) (idx : Nat), LkB own idx m_X8_pouredTotal 0 := fun _ _ => ⟨iw_X8, TW_of (i := 707) (by decide +kernel) (by decide +kernel), ⟨by decide +kernel, by decide +kernel⟩, by decide +kernel, by decide⟩
theorem lk_L_283 : LkV "TeaHouseLaw" 283 "TeaHouse" m_X8_pouredTotal 0 := ⟨TW_of (i := 704) (by decide +kernel) (by decide +kernel), im_X8_pouredTotal, sl_X8_pouredTotal, lb_X8_pouredTotal _ _⟩
theorem im_X9_pouredTotal : Cond.instanceMethod m_X9_pouredTotal.1 ∈ TW := TW_of (i := 1953) (by decide +kernel) (by decide +kernel)
theorem sl_X9_pouredTotal : Cond.selects "TeaHouseModel" m_X9_pouredTotal.1 m_X9_pouredTotal.1 ∈ TW := TW_of (i := 1954) (by decide +kernel) (by decide +kernel)
theorem lb_X9_pouredTotal : ∀ (own : String) (idx : Nat), LkB own idx m_X9_pouredTotal 0 := fun _ _ => ⟨iw_X9, TW_of (i := 1955) (by decide +kernel) (by decide +kernel), ⟨by decide +kernel, by decide +kernel⟩, by decide +kernel, by decide⟩
theorem lk_L_286 : LkV "TeaHouseLaw" 286 "TeaHouseModel" m_X9_pouredTotal 0 := ⟨TW_of (i := 1952) (by decide +kernel) (by decide +kernel), im_X9_pouredTotal, sl_X9_pouredTotal, lb_X9_pouredTotal _ _⟩
theorem im_X8_filledTotal : Cond.instanceMethod m_X8_filledTotal.1 ∈ TW := TW_of (i := 709) (by decide +kernel) (by decide +kernel)
theorem sl_X8_filledTotal : Cond.selects "TeaHouse" m_X8_filledTotal.1 m_X8_filledTotal.1 ∈ TW := TW_of (i := 710) (by decide +kernel) (by decide +kernel)
theorem lb_X8_filledTotal : ∀ (own : String) (idx : Nat), LkB own idx m_X8_filledTotal 0 := fun _ _ => ⟨iw_X8, TW_of (i := 711) (by decide +kernel) (by decide +kernel), ⟨by decide +kernel, by decide +kernel⟩, by decide +kernel, by decide⟩
theorem lk_L_287 : LkV "TeaHouseLaw" 287 "TeaHouse" m_X8_filledTotal 0 := ⟨TW_of (i := 708) (by decide +kernel) (by decide +kernel), im_X8_filledTotal, sl_X8_filledTotal, lb_X8_filledTotal _ _⟩
theorem im_X9_filledTotal : Cond.instanceMethod m_X9_filledTotal.1 ∈ TW := TW_of (i := 1957) (by decide +kernel) (by decide +kernel)
theorem sl_X9_filledTotal : Cond.selects "TeaHouseModel" m_X9_filledTotal.1 m_X9_filledTotal.1 ∈ TW := TW_of (i := 1958) (by decide +kernel) (by decide +kernel)
theorem lb_X9_filledTotal : ∀ (own : String) (idx : Nat), LkB own idx m_X9_filledTotal 0 := fun _ _ => ⟨iw_X9, TW_of (i := 1959) (by decide +kernel) (by decide +kernel), ⟨by decide +kernel, by decide +kernel⟩, by decide +kernel, by decide⟩
theorem lk_L_290 : LkV "TeaHouseLaw" 290 "TeaHouseModel" m_X9_filledTotal 0 := ⟨TW_of (i := 1956) (by decide +kernel) (by decide +kernel), im_X9_filledTotal, sl_X9_filledTotal, lb_X9_filledTotal _ _⟩
theorem im_X8_cupPrice : Cond.instanceMethod m_X8_cupPrice.1 ∈ TW := TW_of (i := 713) (by decide +kernel) (by decide +kernel)
theorem sl_X8_cupPrice : Cond.selects "TeaHouse" m_X8_cupPrice.1 m_X8_cupPrice.1 ∈ TW := TW_of (i := 714) (by decide +kernel) (by decide +kernel)
theorem lb_X8_cupPrice : ∀ (own : String) (idx : Nat), LkB own idx m_X8_cupPrice 0 := fun _ _ => ⟨iw_X8, TW_of (i := 715) (by decide +kernel) (by decide +kernel), ⟨by decide +kernel, by decide +kernel⟩, by decide +kernel, by decide⟩
theorem lk_L_291 : LkV "TeaHouseLaw" 291 "TeaHouse" m_X8_cupPrice 0 := ⟨TW_of (i := 712) (by decide +kernel) (by decide +kernel), im_X8_cupPrice, sl_X8_cupPrice, lb_X8_cupPrice _ _⟩
theorem im_X9_cupPrice : Cond.instanceMethod m_X9_cupPrice.1 ∈ TW := TW_of (i := 1961) (by decide +kernel) (by decide +kernel)
theorem sl_X9_cupPrice : Cond.selects "TeaHouseModel" m_X9_cupPrice.1 m_X9_cupPrice.1 ∈ TW := TW_of (i := 1962) (by decide +kernel) (by decide +kernel)
theorem lb_X9_cupPrice : ∀ (own : String) (idx : Nat), LkB own idx m_X9_cupPrice 0 := fun _ _ => ⟨iw_X9, TW_of (i := 1963) (by decide +kernel) (by decide +kernel), ⟨by decide +kernel, by decide +kernel⟩, by decide +kernel, by decide⟩
theorem lk_L_294 : LkV "TeaHouseLaw" 294 "TeaHouseModel" m_X9_cupPrice 0 := ⟨TW_of (i := 1960) (by decide +kernel) (by decide +kernel), im_X9_cupPrice, sl_X9_cupPrice, lb_X9_cupPrice _ _⟩
theorem im_X8_steamPrice : Cond.instanceMethod m_X8_steamPrice.1 ∈ TW := TW_of (i := 717) (by decide +kernel) (by decide +kernel)
theorem sl_X8_steamPrice : Cond.selects "TeaHouse" m_X8_steamPrice.1 m_X8_steamPrice.1 ∈ TW := TW_of (i := 718) (by decide +kernel) (by decide +kernel)
theorem lb_X8_steamPrice : ∀ (own : String) (idx : Nat), LkB own idx m_X8_steamPrice 0 := fun _ _ => ⟨iw_X8, TW_of (i := 719) (by decide +kernel) (by decide +kernel), ⟨by decide +kernel, by decide +kernel⟩, by decide +kernel, by decide⟩
theorem lk_L_295 : LkV "TeaHouseLaw" 295 "TeaHouse" m_X8_steamPrice 0 := ⟨TW_of (i := 716) (by decide +kernel) (by decide +kernel), im_X8_steamPrice, sl_X8_steamPrice, lb_X8_steamPrice _ _⟩
theorem im_X9_steamPrice : Cond.instanceMethod m_X9_steamPrice.1 ∈ TW := TW_of (i := 1965) (by decide +kernel) (by decide +kernel)
theorem sl_X9_steamPrice : Cond.selects "TeaHouseModel" m_X9_steamPrice.1 m_X9_steamPrice.1 ∈ TW := TW_of (i := 1966) (by decide +kernel) (by decide +kernel)
theorem lb_X9_steamPrice : ∀ (own : String) (idx : Nat), LkB own idx m_X9_steamPrice 0 := fun _ _ => ⟨iw_X9, TW_of (i := 1967) (by decide +kernel) (by decide +kernel), ⟨by decide +kernel, by decide +kernel⟩, by decide +kernel, by decide⟩
theorem lk_L_298 : LkV "TeaHouseLaw" 298 "TeaHouseModel" m_X9_steamPrice 0 := ⟨TW_of (i := 1964) (by decide +kernel) (by decide +kernel), im_X9_steamPrice, sl_X9_steamPrice, lb_X9_steamPrice _ _⟩
theorem im_X8_income : Cond.instanceMethod m_X8_income.1 ∈ TW := TW_of (i := 721) (by decide +kernel) (by decide +kernel)
theorem sl_X8_income : Cond.selects "TeaHouse" m_X8_income.1 m_X8_income.1 ∈ TW := TW_of (i := 722) (by decide +kernel) (by decide +kernel)
theorem lb_X8_income : ∀ (own : String) (idx : Nat), LkB own idx m_X8_income 0 := fun _ _ => ⟨iw_X8, TW_of (i := 723) (by decide +kernel) (by decide +kernel), ⟨by decide +kernel, by decide +kernel⟩, by decide +kernel, by decide⟩
theorem lk_L_299 : LkV "TeaHouseLaw" 299 "TeaHouse" m_X8_income 0 := ⟨TW_of (i := 720) (by decide +kernel) (by decide +kernel), im_X8_income, sl_X8_income, lb_X8_income _ _⟩
theorem im_X9_income : Cond.instanceMethod m_X9_income.1 ∈ TW := TW_of (i := 1969) (by decide +kernel) (by decide +kernel)
theorem sl_X9_income : Cond.selects "TeaHouseModel" m_X9_income.1 m_X9_income.1 ∈ TW := TW_of (i := 1970) (by decide +kernel) (by decide +kernel)
theorem lb_X9_income : ∀ (own : String) (idx : Nat), LkB own idx m_X9_income 0 := fun _ _ => ⟨iw_X9, TW_of (i := 1971) (by decide +kernel) (by decide +kernel), ⟨by decide +kernel, by decide +kernel⟩, by decide +kernel, by decide⟩
theorem lk_L_302 : LkV "TeaHouseLaw" 302 "TeaHouseModel" m_X9_income 0 := ⟨TW_of (i := 1968) (by decide +kernel) (by decide +kernel), im_X9_income, sl_X9_income, lb_X9_income _ _⟩
theorem im_X8_nightCount : Cond.instanceMethod m_X8_nightCount.1 ∈ TW := TW_of (i := 725) (by decide +kernel) (by decide +kernel)
theorem sl_X8_nightCount : Cond.selects "TeaHouse" m_X8_nightCount.1 m_X8_nightCount.1 ∈ TW := TW_of (i := 726) (by decide +kernel) (by decide +kernel)
theorem lb_X8_nightCount : ∀ (own : String) (idx : Nat), LkB own idx m_X8_nightCount 0 := fun _ _ => ⟨iw_X8, TW_of (i := 727) (by decide +kernel) (by decide +kernel), ⟨by decide +kernel, by decide +kernel⟩, by decide +kernel, by decide⟩
theorem lk_L_303 : LkV "TeaHouseLaw" 303 "TeaHouse" m_X8_nightCount 0 := ⟨TW_of (i := 724) (by decide +kernel) (by decide +kernel), im_X8_nightCount, sl_X8_nightCount, lb_X8_nightCount _ _⟩
theorem im_X9_nightCount : Cond.instanceMethod m_X9_nightCount.1 ∈ TW := TW_of (i := 1973) (by decide +kernel) (by decide +kernel)
theorem sl_X9_nightCount : Cond.selects "TeaHouseModel" m_X9_nightCount.1 m_X9_nightCount.1 ∈ TW := TW_of (i := 1974) (by decide +kernel) (by decide +kernel)
theorem lb_X9_nightCount : ∀ (own : String) (idx : Nat), LkB own idx m_X9_nightCount 0 := fun _ _ => ⟨iw_X9, TW_of (i := 1975) (by decide +kernel) (by decide +kernel), ⟨by decide +kernel, by decide +kernel⟩, by decide +kernel, by decide⟩
theorem lk_L_306 : LkV "TeaHouseLaw" 306 "TeaHouseModel" m_X9_nightCount 0 := ⟨TW_of (i := 1972) (by decide +kernel) (by decide +kernel), im_X9_nightCount, sl_X9_nightCount, lb_X9_nightCount _ _⟩
theorem im_X9_nightIncome : Cond.instanceMethod m_X9_nightIncome.1 ∈ TW := TW_of (i := 1977) (by decide +kernel) (by decide +kernel)
theorem sl_X9_nightIncome : Cond.selects "TeaHouseModel" m_X9_nightIncome.1 m_X9_nightIncome.1 ∈ TW := TW_of (i := 1978) (by decide +kernel) (by decide +kernel)
theorem lb_X9_nightIncome : ∀ (own : String) (idx : Nat), LkB own idx m_X9_nightIncome 1 := fun _ _ => ⟨iw_X9, TW_of (i := 1979) (by decide +kernel) (by decide +kernel), ⟨by decide +kernel, by decide +kernel⟩, by decide +kernel, by decide⟩
theorem lk_L_309 : LkV "TeaHouseLaw" 309 "TeaHouseModel" m_X9_nightIncome 1 := ⟨TW_of (i := 1976) (by decide +kernel) (by decide +kernel), im_X9_nightIncome, sl_X9_nightIncome, lb_X9_nightIncome _ _⟩
theorem im_X9_nightByIncome : Cond.instanceMethod m_X9_nightByIncome.1 ∈ TW := TW_of (i := 1981) (by decide +kernel) (by decide +kernel)
theorem sl_X9_nightByIncome : Cond.selects "TeaHouseModel" m_X9_nightByIncome.1 m_X9_nightByIncome.1 ∈ TW := TW_of (i := 1982) (by decide +kernel) (by decide +kernel)
theorem lb_X9_nightByIncome : ∀ (own : String) (idx : Nat), LkB own idx m_X9_nightByIncome 1 := fun _ _ => ⟨iw_X9, TW_of (i := 1983) (by decide +kernel) (by decide +kernel), ⟨by decide +kernel, by decide +kernel⟩, by decide +kernel, by decide⟩
theorem lk_L_312 : LkV "TeaHouseLaw" 312 "TeaHouseModel" m_X9_nightByIncome 1 := ⟨TW_of (i := 1980) (by decide +kernel) (by decide +kernel), im_X9_nightByIncome, sl_X9_nightByIncome, lb_X9_nightByIncome _ _⟩
theorem lk_L_315 : LkV "TeaHouseLaw" 315 "TeaHouseModel" m_X9_greatestIncome 1 := ⟨TW_of (i := 1984) (by decide +kernel) (by decide +kernel), im_X9_greatestIncome, sl_X9_greatestIncome, lb_X9_greatestIncome _ _⟩
theorem im_X9_greatestIncomeBySums : Cond.instanceMethod m_X9_greatestIncomeBySums.1 ∈ TW := TW_of (i := 1989) (by decide +kernel) (by decide +kernel)
theorem sl_X9_greatestIncomeBySums : Cond.selects "TeaHouseModel" m_X9_greatestIncomeBySums.1 m_X9_greatestIncomeBySums.1 ∈ TW := TW_of (i := 1990) (by decide +kernel) (by decide +kernel)
theorem lb_X9_greatestIncomeBySums : ∀ (own : String) (idx : Nat), LkB own idx m_X9_greatestIncomeBySums 1 := fun _ _ => ⟨iw_X9, TW_of (i := 1991) (by decide +kernel) (by decide +kernel), ⟨by decide +kernel, by decide +kernel⟩, by decide +kernel, by decide⟩
theorem lk_L_318 : LkV "TeaHouseLaw" 318 "TeaHouseModel" m_X9_greatestIncomeBySums 1 := ⟨TW_of (i := 1988) (by decide +kernel) (by decide +kernel), im_X9_greatestIncomeBySums, sl_X9_greatestIncomeBySums, lb_X9_greatestIncomeBySums _ _⟩
theorem im_X8_totalIncome : Cond.instanceMethod m_X8_totalIncome.1 ∈ TW := TW_of (i := 729) (by decide +kernel) (by decide +kernel)
theorem sl_X8_totalIncome : Cond.selects "TeaHouse" m_X8_totalIncome.1 m_X8_totalIncome.1 ∈ TW := TW_of (i := 730) (by decide +kernel) (by decide +kernel)
theorem lb_X8_totalIncome : ∀ (own : String) (idx : Nat), LkB own idx m_X8_totalIncome 0 := fun _ _ => ⟨iw_X8, TW_of (i := 731) (by decide +kernel) (by decide +kernel), ⟨by decide +kernel, by decide +kernel⟩, by decide +kernel, by decide⟩
theorem lk_L_319 : LkV "TeaHouseLaw" 319 "TeaHouse" m_X8_totalIncome 0 := ⟨TW_of (i := 728) (by decide +kernel) (by decide +kernel), im_X8_totalIncome, sl_X8_totalIncome, lb_X8_totalIncome _ _⟩
theorem lk_L_322 : LkV "TeaHouseLaw" 322 "TeaHouseModel" m_X9_totalIncome 0 := ⟨TW_of (i := 1993) (by decide +kernel) (by decide +kernel), im_X9_totalIncome, sl_X9_totalIncome, lb_X9_totalIncome _ _⟩
theorem im_X8_totalIncomeBySales : Cond.instanceMethod m_X8_totalIncomeBySales.1 ∈ TW := TW_of (i := 737) (by decide +kernel) (by decide +kernel)
theorem sl_X8_totalIncomeBySales : Cond.selects "TeaHouse" m_X8_totalIncomeBySales.1 m_X8_totalIncomeBySales.1 ∈ TW := TW_of (i := 738) (by decide +kernel) (by decide +kernel)
theorem lb_X8_totalIncomeBySales : ∀ (own : String) (idx : Nat), LkB own idx m_X8_totalIncomeBySales 0 := fun _ _ => ⟨iw_X8, TW_of (i := 739) (by decide +kernel) (by decide +kernel), ⟨by decide +kernel, by decide +kernel⟩, by decide +kernel, by decide⟩
theorem lk_L_323 : LkV "TeaHouseLaw" 323 "TeaHouse" m_X8_totalIncomeBySales 0 := ⟨TW_of (i := 736) (by decide +kernel) (by decide +kernel), im_X8_totalIncomeBySales, sl_X8_totalIncomeBySales, lb_X8_totalIncomeBySales _ _⟩
theorem im_X9_totalIncomeBySales : Cond.instanceMethod m_X9_totalIncomeBySales.1 ∈ TW := TW_of (i := 1998) (by decide +kernel) (by decide +kernel)
theorem sl_X9_totalIncomeBySales : Cond.selects "TeaHouseModel" m_X9_totalIncomeBySales.1 m_X9_totalIncomeBySales.1 ∈ TW := TW_of (i := 1999) (by decide +kernel) (by decide +kernel)
theorem lb_X9_totalIncomeBySales : ∀ (own : String) (idx : Nat), LkB own idx m_X9_totalIncomeBySales 0 := fun _ _ => ⟨iw_X9, TW_of (i := 2000) (by decide +kernel) (by decide +kernel), ⟨by decide +kernel, by decide +kernel⟩, by decide +kernel, by decide⟩
theorem lk_L_326 : LkV "TeaHouseLaw" 326 "TeaHouseModel" m_X9_totalIncomeBySales 0 := ⟨TW_of (i := 1997) (by decide +kernel) (by decide +kernel), im_X9_totalIncomeBySales, sl_X9_totalIncomeBySales, lb_X9_totalIncomeBySales _ _⟩
theorem im_X8_servedOrders : Cond.instanceMethod m_X8_servedOrders.1 ∈ TW := TW_of (i := 745) (by decide +kernel) (by decide +kernel)
theorem sl_X8_servedOrders : Cond.selects "TeaHouse" m_X8_servedOrders.1 m_X8_servedOrders.1 ∈ TW := TW_of (i := 746) (by decide +kernel) (by decide +kernel)
theorem lb_X8_servedOrders : ∀ (own : String) (idx : Nat), LkB own idx m_X8_servedOrders 0 := fun _ _ => ⟨iw_X8, TW_of (i := 747) (by decide +kernel) (by decide +kernel), ⟨by decide +kernel, by decide +kernel⟩, by decide +kernel, by decide⟩
theorem lk_L_327 : LkV "TeaHouseLaw" 327 "TeaHouse" m_X8_servedOrders 0 := ⟨TW_of (i := 744) (by decide +kernel) (by decide +kernel), im_X8_servedOrders, sl_X8_servedOrders, lb_X8_servedOrders _ _⟩
theorem im_X9_servedOrders : Cond.instanceMethod m_X9_servedOrders.1 ∈ TW := TW_of (i := 2003) (by decide +kernel) (by decide +kernel)
theorem sl_X9_servedOrders : Cond.selects "TeaHouseModel" m_X9_servedOrders.1 m_X9_servedOrders.1 ∈ TW := TW_of (i := 2004) (by decide +kernel) (by decide +kernel)
theorem lb_X9_servedOrders : ∀ (own : String) (idx : Nat), LkB own idx m_X9_servedOrders 0 := fun _ _ => ⟨iw_X9, TW_of (i := 2005) (by decide +kernel) (by decide +kernel), ⟨by decide +kernel, by decide +kernel⟩, by decide +kernel, by decide⟩
theorem lk_L_330 : LkV "TeaHouseLaw" 330 "TeaHouseModel" m_X9_servedOrders 0 := ⟨TW_of (i := 2002) (by decide +kernel) (by decide +kernel), im_X9_servedOrders, sl_X9_servedOrders, lb_X9_servedOrders _ _⟩
theorem im_X8_whistlesHeard : Cond.instanceMethod m_X8_whistlesHeard.1 ∈ TW := TW_of (i := 749) (by decide +kernel) (by decide +kernel)
theorem sl_X8_whistlesHeard : Cond.selects "TeaHouse" m_X8_whistlesHeard.1 m_X8_whistlesHeard.1 ∈ TW := TW_of (i := 750) (by decide +kernel) (by decide +kernel)
theorem lb_X8_whistlesHeard : ∀ (own : String) (idx : Nat), LkB own idx m_X8_whistlesHeard 0 := fun _ _ => ⟨iw_X8, TW_of (i := 751) (by decide +kernel) (by decide +kernel), ⟨by decide +kernel, by decide +kernel⟩, by decide +kernel, by decide⟩
theorem lk_L_331 : LkV "TeaHouseLaw" 331 "TeaHouse" m_X8_whistlesHeard 0 := ⟨TW_of (i := 748) (by decide +kernel) (by decide +kernel), im_X8_whistlesHeard, sl_X8_whistlesHeard, lb_X8_whistlesHeard _ _⟩
theorem im_X9_whistlesHeard : Cond.instanceMethod m_X9_whistlesHeard.1 ∈ TW := TW_of (i := 2007) (by decide +kernel) (by decide +kernel)
theorem sl_X9_whistlesHeard : Cond.selects "TeaHouseModel" m_X9_whistlesHeard.1 m_X9_whistlesHeard.1 ∈ TW := TW_of (i := 2008) (by decide +kernel) (by decide +kernel)
theorem lb_X9_whistlesHeard : ∀ (own : String) (idx : Nat), LkB own idx m_X9_whistlesHeard 0 := fun _ _ => ⟨iw_X9, TW_of (i := 2009) (by decide +kernel) (by decide +kernel), ⟨by decide +kernel, by decide +kernel⟩, by decide +kernel, by decide⟩
theorem lk_L_334 : LkV "TeaHouseLaw" 334 "TeaHouseModel" m_X9_whistlesHeard 0 := ⟨TW_of (i := 2006) (by decide +kernel) (by decide +kernel), im_X9_whistlesHeard, sl_X9_whistlesHeard, lb_X9_whistlesHeard _ _⟩
theorem im_X8_whistlesLost : Cond.instanceMethod m_X8_whistlesLost.1 ∈ TW := TW_of (i := 753) (by decide +kernel) (by decide +kernel)
theorem sl_X8_whistlesLost : Cond.selects "TeaHouse" m_X8_whistlesLost.1 m_X8_whistlesLost.1 ∈ TW := TW_of (i := 754) (by decide +kernel) (by decide +kernel)
theorem lb_X8_whistlesLost : ∀ (own : String) (idx : Nat), LkB own idx m_X8_whistlesLost 0 := fun _ _ => ⟨iw_X8, TW_of (i := 755) (by decide +kernel) (by decide +kernel), ⟨by decide +kernel, by decide +kernel⟩, by decide +kernel, by decide⟩
theorem lk_L_335 : LkV "TeaHouseLaw" 335 "TeaHouse" m_X8_whistlesLost 0 := ⟨TW_of (i := 752) (by decide +kernel) (by decide +kernel), im_X8_whistlesLost, sl_X8_whistlesLost, lb_X8_whistlesLost _ _⟩
theorem im_X9_whistlesLost : Cond.instanceMethod m_X9_whistlesLost.1 ∈ TW := TW_of (i := 2011) (by decide +kernel) (by decide +kernel)
theorem sl_X9_whistlesLost : Cond.selects "TeaHouseModel" m_X9_whistlesLost.1 m_X9_whistlesLost.1 ∈ TW := TW_of (i := 2012) (by decide +kernel) (by decide +kernel)
theorem lb_X9_whistlesLost : ∀ (own : String) (idx : Nat), LkB own idx m_X9_whistlesLost 0 := fun _ _ => ⟨iw_X9, TW_of (i := 2013) (by decide +kernel) (by decide +kernel), ⟨by decide +kernel, by decide +kernel⟩, by decide +kernel, by decide⟩
theorem lk_L_338 : LkV "TeaHouseLaw" 338 "TeaHouseModel" m_X9_whistlesLost 0 := ⟨TW_of (i := 2010) (by decide +kernel) (by decide +kernel), im_X9_whistlesLost, sl_X9_whistlesLost, lb_X9_whistlesLost _ _⟩
theorem im_X9_meanTemperature : Cond.instanceMethod m_X9_meanTemperature.1 ∈ TW := TW_of (i := 2015) (by decide +kernel) (by decide +kernel)
theorem sl_X9_meanTemperature : Cond.selects "TeaHouseModel" m_X9_meanTemperature.1 m_X9_meanTemperature.1 ∈ TW := TW_of (i := 2016) (by decide +kernel) (by decide +kernel)
theorem lb_X9_meanTemperature : ∀ (own : String) (idx : Nat), LkB own idx m_X9_meanTemperature 0 := fun _ _ => ⟨iw_X9, TW_of (i := 2017) (by decide +kernel) (by decide +kernel), ⟨by decide +kernel, by decide +kernel⟩, by decide +kernel, by decide⟩
theorem lk_L_341 : LkV "TeaHouseLaw" 341 "TeaHouseModel" m_X9_meanTemperature 0 := ⟨TW_of (i := 2014) (by decide +kernel) (by decide +kernel), im_X9_meanTemperature, sl_X9_meanTemperature, lb_X9_meanTemperature _ _⟩
theorem im_X9_lostShare : Cond.instanceMethod m_X9_lostShare.1 ∈ TW := TW_of (i := 2020) (by decide +kernel) (by decide +kernel)
theorem sl_X9_lostShare : Cond.selects "TeaHouseModel" m_X9_lostShare.1 m_X9_lostShare.1 ∈ TW := TW_of (i := 2021) (by decide +kernel) (by decide +kernel)
theorem lb_X9_lostShare : ∀ (own : String) (idx : Nat), LkB own idx m_X9_lostShare 0 := fun _ _ => ⟨iw_X9, TW_of (i := 2022) (by decide +kernel) (by decide +kernel), ⟨by decide +kernel, by decide +kernel⟩, by decide +kernel, by decide⟩
theorem lk_L_344 : LkV "TeaHouseLaw" 344 "TeaHouseModel" m_X9_lostShare 0 := ⟨TW_of (i := 2019) (by decide +kernel) (by decide +kernel), im_X9_lostShare, sl_X9_lostShare, lb_X9_lostShare _ _⟩
theorem im_X8_isBalanced : Cond.instanceMethod m_X8_isBalanced.1 ∈ TW := TW_of (i := 757) (by decide +kernel) (by decide +kernel)
theorem sl_X8_isBalanced : Cond.selects "TeaHouse" m_X8_isBalanced.1 m_X8_isBalanced.1 ∈ TW := TW_of (i := 758) (by decide +kernel) (by decide +kernel)
theorem lb_X8_isBalanced : ∀ (own : String) (idx : Nat), LkB own idx m_X8_isBalanced 0 := fun _ _ => ⟨iw_X8, TW_of (i := 759) (by decide +kernel) (by decide +kernel), ⟨by decide +kernel, by decide +kernel⟩, by decide +kernel, by decide⟩
theorem lk_L_345 : LkV "TeaHouseLaw" 345 "TeaHouse" m_X8_isBalanced 0 := ⟨TW_of (i := 756) (by decide +kernel) (by decide +kernel), im_X8_isBalanced, sl_X8_isBalanced, lb_X8_isBalanced _ _⟩
theorem im_X9_isBalanced : Cond.instanceMethod m_X9_isBalanced.1 ∈ TW := TW_of (i := 2024) (by decide +kernel) (by decide +kernel)
theorem sl_X9_isBalanced : Cond.selects "TeaHouseModel" m_X9_isBalanced.1 m_X9_isBalanced.1 ∈ TW := TW_of (i := 2025) (by decide +kernel) (by decide +kernel)
theorem lb_X9_isBalanced : ∀ (own : String) (idx : Nat), LkB own idx m_X9_isBalanced 0 := fun _ _ => ⟨iw_X9, TW_of (i := 2026) (by decide +kernel) (by decide +kernel), ⟨by decide +kernel, by decide +kernel⟩, by decide +kernel, by decide⟩
theorem lk_L_348 : LkV "TeaHouseLaw" 348 "TeaHouseModel" m_X9_isBalanced 0 := ⟨TW_of (i := 2023) (by decide +kernel) (by decide +kernel), im_X9_isBalanced, sl_X9_isBalanced, lb_X9_isBalanced _ _⟩
theorem im_X9_formatKettle : Cond.instanceMethod m_X9_formatKettle.1 ∈ TW := TW_of (i := 2028) (by decide +kernel) (by decide +kernel)
theorem sl_X9_formatKettle : Cond.selects "TeaHouseModel" m_X9_formatKettle.1 m_X9_formatKettle.1 ∈ TW := TW_of (i := 2029) (by decide +kernel) (by decide +kernel)
theorem lb_X9_formatKettle : ∀ (own : String) (idx : Nat), LkB own idx m_X9_formatKettle 1 := fun _ _ => ⟨iw_X9, TW_of (i := 2030) (by decide +kernel) (by decide +kernel), ⟨by decide +kernel, by decide +kernel⟩, by decide +kernel, by decide⟩
theorem lk_L_351 : LkV "TeaHouseLaw" 351 "TeaHouseModel" m_X9_formatKettle 1 := ⟨TW_of (i := 2027) (by decide +kernel) (by decide +kernel), im_X9_formatKettle, sl_X9_formatKettle, lb_X9_formatKettle _ _⟩
theorem im_X9_formatOrder : Cond.instanceMethod m_X9_formatOrder.1 ∈ TW := TW_of (i := 2040) (by decide +kernel) (by decide +kernel)
theorem sl_X9_formatOrder : Cond.selects "TeaHouseModel" m_X9_formatOrder.1 m_X9_formatOrder.1 ∈ TW := TW_of (i := 2041) (by decide +kernel) (by decide +kernel)
theorem lb_X9_formatOrder : ∀ (own : String) (idx : Nat), LkB own idx m_X9_formatOrder 1 := fun _ _ => ⟨iw_X9, TW_of (i := 2042) (by decide +kernel) (by decide +kernel), ⟨by decide +kernel, by decide +kernel⟩, by decide +kernel, by decide⟩
theorem lk_L_354 : LkV "TeaHouseLaw" 354 "TeaHouseModel" m_X9_formatOrder 1 := ⟨TW_of (i := 2039) (by decide +kernel) (by decide +kernel), im_X9_formatOrder, sl_X9_formatOrder, lb_X9_formatOrder _ _⟩
theorem im_X8_formatLedger : Cond.instanceMethod m_X8_formatLedger.1 ∈ TW := TW_of (i := 836) (by decide +kernel) (by decide +kernel)
theorem sl_X8_formatLedger : Cond.selects "TeaHouse" m_X8_formatLedger.1 m_X8_formatLedger.1 ∈ TW := TW_of (i := 837) (by decide +kernel) (by decide +kernel)
theorem lb_X8_formatLedger : ∀ (own : String) (idx : Nat), LkB own idx m_X8_formatLedger 0 := fun _ _ => ⟨iw_X8, TW_of (i := 838) (by decide +kernel) (by decide +kernel), ⟨by decide +kernel, by decide +kernel⟩, by decide +kernel, by decide⟩
theorem lk_L_355 : LkV "TeaHouseLaw" 355 "TeaHouse" m_X8_formatLedger 0 := ⟨TW_of (i := 835) (by decide +kernel) (by decide +kernel), im_X8_formatLedger, sl_X8_formatLedger, lb_X8_formatLedger _ _⟩
theorem im_X9_formatLedger : Cond.instanceMethod m_X9_formatLedger.1 ∈ TW := TW_of (i := 2048) (by decide +kernel) (by decide +kernel)
theorem sl_X9_formatLedger : Cond.selects "TeaHouseModel" m_X9_formatLedger.1 m_X9_formatLedger.1 ∈ TW := TW_of (i := 2049) (by decide +kernel) (by decide +kernel)
theorem lb_X9_formatLedger : ∀ (own : String) (idx : Nat), LkB own idx m_X9_formatLedger 0 := fun _ _ => ⟨iw_X9, TW_of (i := 2050) (by decide +kernel) (by decide +kernel), ⟨by decide +kernel, by decide +kernel⟩, by decide +kernel, by decide⟩
theorem lk_L_358 : LkV "TeaHouseLaw" 358 "TeaHouseModel" m_X9_formatLedger 0 := ⟨TW_of (i := 2047) (by decide +kernel) (by decide +kernel), im_X9_formatLedger, sl_X9_formatLedger, lb_X9_formatLedger _ _⟩
theorem im_X9_lineChar : Cond.instanceMethod m_X9_lineChar.1 ∈ TW := TW_of (i := 2052) (by decide +kernel) (by decide +kernel)
theorem sl_X9_lineChar : Cond.selects "TeaHouseModel" m_X9_lineChar.1 m_X9_lineChar.1 ∈ TW := TW_of (i := 2053) (by decide +kernel) (by decide +kernel)
theorem lb_X9_lineChar : ∀ (own : String) (idx : Nat), LkB own idx m_X9_lineChar 1 := fun _ _ => ⟨iw_X9, TW_of (i := 2054) (by decide +kernel) (by decide +kernel), ⟨by decide +kernel, by decide +kernel⟩, by decide +kernel, by decide⟩
theorem lk_L_361 : LkV "TeaHouseLaw" 361 "TeaHouseModel" m_X9_lineChar 1 := ⟨TW_of (i := 2051) (by decide +kernel) (by decide +kernel), im_X9_lineChar, sl_X9_lineChar, lb_X9_lineChar _ _⟩
theorem im_X9_append : Cond.instanceMethod m_X9_append.1 ∈ TW := TW_of (i := 2056) (by decide +kernel) (by decide +kernel)
theorem sl_X9_append : Cond.selects "TeaHouseModel" m_X9_append.1 m_X9_append.1 ∈ TW := TW_of (i := 2057) (by decide +kernel) (by decide +kernel)
theorem lb_X9_append : ∀ (own : String) (idx : Nat), LkB own idx m_X9_append 1 := fun _ _ => ⟨iw_X9, TW_of (i := 2058) (by decide +kernel) (by decide +kernel), ⟨by decide +kernel, by decide +kernel⟩, by decide +kernel, by decide⟩
theorem lk_L_365 : LkV "TeaHouseLaw" 365 "TeaHouseModel" m_X9_append 1 := ⟨TW_of (i := 2055) (by decide +kernel) (by decide +kernel), im_X9_append, sl_X9_append, lb_X9_append _ _⟩
theorem im_X9_run : Cond.instanceMethod m_X9_run.1 ∈ TW := TW_of (i := 2060) (by decide +kernel) (by decide +kernel)
theorem sl_X9_run : Cond.selects "TeaHouseModel" m_X9_run.1 m_X9_run.1 ∈ TW := TW_of (i := 2061) (by decide +kernel) (by decide +kernel)
theorem lb_X9_run : ∀ (own : String) (idx : Nat), LkB own idx m_X9_run 0 := fun _ _ => ⟨iw_X9, TW_of (i := 2062) (by decide +kernel) (by decide +kernel), ⟨by decide +kernel, by decide +kernel⟩, by decide +kernel, by decide⟩
theorem lk_L_368 : LkV "TeaHouseLaw" 368 "TeaHouseModel" m_X9_run 0 := ⟨TW_of (i := 2059) (by decide +kernel) (by decide +kernel), im_X9_run, sl_X9_run, lb_X9_run _ _⟩
theorem im_X9_errorPosition : Cond.instanceMethod m_X9_errorPosition.1 ∈ TW := TW_of (i := 2096) (by decide +kernel) (by decide +kernel)
theorem sl_X9_errorPosition : Cond.selects "TeaHouseModel" m_X9_errorPosition.1 m_X9_errorPosition.1 ∈ TW := TW_of (i := 2097) (by decide +kernel) (by decide +kernel)
theorem lb_X9_errorPosition : ∀ (own : String) (idx : Nat), LkB own idx m_X9_errorPosition 0 := fun _ _ => ⟨iw_X9, TW_of (i := 2098) (by decide +kernel) (by decide +kernel), ⟨by decide +kernel, by decide +kernel⟩, by decide +kernel, by decide⟩
theorem lk_L_371 : LkV "TeaHouseLaw" 371 "TeaHouseModel" m_X9_errorPosition 0 := ⟨TW_of (i := 2095) (by decide +kernel) (by decide +kernel), im_X9_errorPosition, sl_X9_errorPosition, lb_X9_errorPosition _ _⟩
theorem im_X9_failedCommand : Cond.instanceMethod m_X9_failedCommand.1 ∈ TW := TW_of (i := 2100) (by decide +kernel) (by decide +kernel)
theorem sl_X9_failedCommand : Cond.selects "TeaHouseModel" m_X9_failedCommand.1 m_X9_failedCommand.1 ∈ TW := TW_of (i := 2101) (by decide +kernel) (by decide +kernel)
theorem lb_X9_failedCommand : ∀ (own : String) (idx : Nat), LkB own idx m_X9_failedCommand 0 := fun _ _ => ⟨iw_X9, TW_of (i := 2102) (by decide +kernel) (by decide +kernel), ⟨by decide +kernel, by decide +kernel⟩, by decide +kernel, by decide⟩
theorem lk_L_374 : LkV "TeaHouseLaw" 374 "TeaHouseModel" m_X9_failedCommand 0 := ⟨TW_of (i := 2099) (by decide +kernel) (by decide +kernel), im_X9_failedCommand, sl_X9_failedCommand, lb_X9_failedCommand _ _⟩
theorem im_X8_undoableCount : Cond.instanceMethod m_X8_undoableCount.1 ∈ TW := TW_of (i := 1139) (by decide +kernel) (by decide +kernel)
theorem sl_X8_undoableCount : Cond.selects "TeaHouse" m_X8_undoableCount.1 m_X8_undoableCount.1 ∈ TW := TW_of (i := 1140) (by decide +kernel) (by decide +kernel)
theorem lb_X8_undoableCount : ∀ (own : String) (idx : Nat), LkB own idx m_X8_undoableCount 0 := fun _ _ => ⟨iw_X8, TW_of (i := 1141) (by decide +kernel) (by decide +kernel), ⟨by decide +kernel, by decide +kernel⟩, by decide +kernel, by decide⟩
theorem lk_L_375 : LkV "TeaHouseLaw" 375 "TeaHouse" m_X8_undoableCount 0 := ⟨TW_of (i := 1138) (by decide +kernel) (by decide +kernel), im_X8_undoableCount, sl_X8_undoableCount, lb_X8_undoableCount _ _⟩
theorem im_X9_undoableCount : Cond.instanceMethod m_X9_undoableCount.1 ∈ TW := TW_of (i := 2104) (by decide +kernel) (by decide +kernel)
theorem sl_X9_undoableCount : Cond.selects "TeaHouseModel" m_X9_undoableCount.1 m_X9_undoableCount.1 ∈ TW := TW_of (i := 2105) (by decide +kernel) (by decide +kernel)
theorem lb_X9_undoableCount : ∀ (own : String) (idx : Nat), LkB own idx m_X9_undoableCount 0 := fun _ _ => ⟨iw_X9, TW_of (i := 2106) (by decide +kernel) (by decide +kernel), ⟨by decide +kernel, by decide +kernel⟩, by decide +kernel, by decide⟩
theorem lk_L_378 : LkV "TeaHouseLaw" 378 "TeaHouseModel" m_X9_undoableCount 0 := ⟨TW_of (i := 2103) (by decide +kernel) (by decide +kernel), im_X9_undoableCount, sl_X9_undoableCount, lb_X9_undoableCount _ _⟩
theorem im_X9_undo : Cond.instanceMethod m_X9_undo.1 ∈ TW := TW_of (i := 2108) (by decide +kernel) (by decide +kernel)
theorem sl_X9_undo : Cond.selects "TeaHouseModel" m_X9_undo.1 m_X9_undo.1 ∈ TW := TW_of (i := 2109) (by decide +kernel) (by decide +kernel)
theorem lb_X9_undo : ∀ (own : String) (idx : Nat), LkB own idx m_X9_undo 0 := fun _ _ => ⟨iw_X9, TW_of (i := 2110) (by decide +kernel) (by decide +kernel), ⟨by decide +kernel, by decide +kernel⟩, by decide +kernel, by decide⟩
theorem lk_L_381 : LkV "TeaHouseLaw" 381 "TeaHouseModel" m_X9_undo 0 := ⟨TW_of (i := 2107) (by decide +kernel) (by decide +kernel), im_X9_undo, sl_X9_undo, lb_X9_undo _ _⟩
theorem im_X8_save : Cond.instanceMethod m_X8_save.1 ∈ TW := TW_of (i := 1143) (by decide +kernel) (by decide +kernel)
theorem sl_X8_save : Cond.selects "TeaHouse" m_X8_save.1 m_X8_save.1 ∈ TW := TW_of (i := 1144) (by decide +kernel) (by decide +kernel)
theorem lb_X8_save : ∀ (own : String) (idx : Nat), LkB own idx m_X8_save 0 := fun _ _ => ⟨iw_X8, TW_of (i := 1145) (by decide +kernel) (by decide +kernel), ⟨by decide +kernel, by decide +kernel⟩, by decide +kernel, by decide⟩
theorem lk_L_382 : LkV "TeaHouseLaw" 382 "TeaHouse" m_X8_save 0 := ⟨TW_of (i := 1142) (by decide +kernel) (by decide +kernel), im_X8_save, sl_X8_save, lb_X8_save _ _⟩
theorem im_X9_save : Cond.instanceMethod m_X9_save.1 ∈ TW := TW_of (i := 2112) (by decide +kernel) (by decide +kernel)
theorem sl_X9_save : Cond.selects "TeaHouseModel" m_X9_save.1 m_X9_save.1 ∈ TW := TW_of (i := 2113) (by decide +kernel) (by decide +kernel)
theorem lb_X9_save : ∀ (own : String) (idx : Nat), LkB own idx m_X9_save 0 := fun _ _ => ⟨iw_X9, TW_of (i := 2114) (by decide +kernel) (by decide +kernel), ⟨by decide +kernel, by decide +kernel⟩, by decide +kernel, by decide⟩
theorem lk_L_385 : LkV "TeaHouseLaw" 385 "TeaHouseModel" m_X9_save 0 := ⟨TW_of (i := 2111) (by decide +kernel) (by decide +kernel), im_X9_save, sl_X9_save, lb_X9_save _ _⟩
theorem im_X9_restore : Cond.instanceMethod m_X9_restore.1 ∈ TW := TW_of (i := 2116) (by decide +kernel) (by decide +kernel)
theorem sl_X9_restore : Cond.selects "TeaHouseModel" m_X9_restore.1 m_X9_restore.1 ∈ TW := TW_of (i := 2117) (by decide +kernel) (by decide +kernel)
theorem lb_X9_restore : ∀ (own : String) (idx : Nat), LkB own idx m_X9_restore 0 := fun _ _ => ⟨iw_X9, TW_of (i := 2118) (by decide +kernel) (by decide +kernel), ⟨by decide +kernel, by decide +kernel⟩, by decide +kernel, by decide⟩
theorem lk_L_388 : LkV "TeaHouseLaw" 388 "TeaHouseModel" m_X9_restore 0 := ⟨TW_of (i := 2115) (by decide +kernel) (by decide +kernel), im_X9_restore, sl_X9_restore, lb_X9_restore _ _⟩
theorem w_oi1 : Cond.instanceMethod Lib.objectInit ∈ TW := TW_of (i := 114) (by decide +kernel) (by decide +kernel)
theorem w_oi2 : Cond.code Lib.objectInit ⟨#[0xb1]⟩ 1 none ∈ TW := TW_of (i := 115) (by decide +kernel) (by decide +kernel)
theorem w_min1 : Cond.static Lib.Math.min.name ∈ TW := TW_of (i := 595) (by decide +kernel) (by decide +kernel)
theorem w_min2 : Cond.code Lib.Math.min.name Lib.Math.min.code 2 (some .int) ∈ TW := TW_of (i := 596) (by decide +kernel) (by decide +kernel)
theorem w_max1 : Cond.static Lib.Math.max.name ∈ TW := TW_of (i := 655) (by decide +kernel) (by decide +kernel)
theorem w_max2 : Cond.code Lib.Math.max.name Lib.Math.max.code 2 (some .int) ∈ TW := TW_of (i := 656) (by decide +kernel) (by decide +kernel)
theorem w_math : Cond.initialized "java/lang/Math" ∈ TW := TW_of (i := 96) (by decide +kernel) (by decide +kernel)
theorem w_arr_byte : Cond.arrayClass .byte ∈ TW := TW_of (i := 344) (by decide +kernel) (by decide +kernel)
theorem w_arr_char : Cond.arrayClass .char ∈ TW := TW_of (i := 311) (by decide +kernel) (by decide +kernel)
theorem w_arr_int : Cond.arrayClass .int ∈ TW := TW_of (i := 157) (by decide +kernel) (by decide +kernel)
theorem w_arr_boolean : Cond.arrayClass .boolean ∈ TW := TW_of (i := 158) (by decide +kernel) (by decide +kernel)
theorem w_arr_long : Cond.arrayClass .long ∈ TW := TW_of (i := 2119) (by decide +kernel) (by decide +kernel)
theorem w_arr_double : Cond.arrayClass .double ∈ TW := TW_of (i := 2120) (by decide +kernel) (by decide +kernel)
theorem th_226 : ThW "TeaHouse" 226 230 "java/lang/IndexOutOfBoundsException" := ⟨by decide +kernel, TW_of (i := 448) (by decide +kernel) (by decide +kernel), TW_of (i := 92) (by decide +kernel) (by decide +kernel), fun w hw => List.mem_filter.mpr ⟨List.mem_append_right _ ((show ∀ w ∈ vx_atS "TeaHouse" 230 "java/lang/IndexOutOfBoundsException" ["java/lang/RuntimeException", "java/lang/Exception"], w ∈ lw_tbl by decide +kernel) w hw), (show ∀ w ∈ vx_atS "TeaHouse" 230 "java/lang/IndexOutOfBoundsException" ["java/lang/RuntimeException", "java/lang/Exception"], gW w = true by decide +kernel) w hw⟩⟩
theorem th_306 : ThW "TeaHouse" 306 310 "java/lang/IllegalArgumentException" := ⟨by decide +kernel, TW_of (i := 520) (by decide +kernel) (by decide +kernel), TW_of (i := 93) (by decide +kernel) (by decide +kernel), fun w hw => List.mem_filter.mpr ⟨List.mem_append_right _ ((show ∀ w ∈ vx_atS "TeaHouse" 310 "java/lang/IllegalArgumentException" ["java/lang/RuntimeException", "java/lang/Exception"], w ∈ lw_tbl by decide +kernel) w hw), (show ∀ w ∈ vx_atS "TeaHouse" 310 "java/lang/IllegalArgumentException" ["java/lang/RuntimeException", "java/lang/Exception"], gW w = true by decide +kernel) w hw⟩⟩
theorem th_313 : ThW "TeaHouse" 313 317 "java/lang/IllegalStateException" := ⟨by decide +kernel, TW_of (i := 537) (by decide +kernel) (by decide +kernel), TW_of (i := 94) (by decide +kernel) (by decide +kernel), fun w hw => List.mem_filter.mpr ⟨List.mem_append_right _ ((show ∀ w ∈ vx_atS "TeaHouse" 317 "java/lang/IllegalStateException" ["java/lang/RuntimeException", "java/lang/Exception"], w ∈ lw_tbl by decide +kernel) w hw), (show ∀ w ∈ vx_atS "TeaHouse" 317 "java/lang/IllegalStateException" ["java/lang/RuntimeException", "java/lang/Exception"], gW w = true by decide +kernel) w hw⟩⟩
theorem th_262 : ThW "TeaHouse" 262 266 "java/lang/ArithmeticException" := ⟨by decide +kernel, TW_of (i := 1447) (by decide +kernel) (by decide +kernel), TW_of (i := 100) (by decide +kernel) (by decide +kernel), fun w hw => List.mem_filter.mpr ⟨List.mem_append_right _ ((show ∀ w ∈ vx_atS "TeaHouse" 266 "java/lang/ArithmeticException" ["java/lang/RuntimeException", "java/lang/Exception"], w ∈ lw_tbl by decide +kernel) w hw), (show ∀ w ∈ vx_atS "TeaHouse" 266 "java/lang/ArithmeticException" ["java/lang/RuntimeException", "java/lang/Exception"], gW w = true by decide +kernel) w hw⟩⟩
