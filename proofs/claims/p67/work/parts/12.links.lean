/-- what the fields of a new object hold, by the table of its class -/
def nw_ok (ci N : Nat) : Bool := match vwCl[ci]? with
  | some r => (List.range N).all fun j => match parseFieldDescriptor (r.2.1 j).2.2.1 with
    | some t => decide (defaultValue t = if isR ci j = true then .null else .int 0)
    | none => false
  | none => false
theorem nw_def (ci N : Nat) (h : nw_ok ci N = true) {r : vw_C} (hr : vwCl[ci]? = some r := by rfl) (ty : Nat → FieldType) (j : Nat) (hty : ∀ k, k < N → parseFieldDescriptor (r.2.1 k).2.2.1 = some (ty k)) (hj : j < N) : defaultValue (ty j) = if isR ci j = true then .null else .int 0 := by
  unfold nw_ok at h
  rw [hr] at h
  have h1 := List.all_eq_true.mp h j (List.mem_range.mpr hj)
  rw [hty j hj] at h1
  exact of_decide_eq_true h1
def m_J0_charAt_5068e : MD := (yJ0_charAt_5068e, cJ0_charAt_5068e, 2, (some .char))
def m_J0_checkBoundsBeginEnd_23922 : MD := (yJ0_checkBoundsBeginEnd_23922, cJ0_checkBoundsBeginEnd_23922, 3, none)
def m_J0_checkBoundsOffCount_cabcc : MD := (yJ0_checkBoundsOffCount_cabcc, cJ0_checkBoundsOffCount_cabcc, 3, (some .int))
def m_J0_checkIndex_df160 : MD := (yJ0_checkIndex_df160, cJ0_checkIndex_df160, 2, none)
def m_J0_coder_7d493 : MD := (yJ0_coder_7d493, cJ0_coder_7d493, 1, (some .byte))
def m_J0_getBytes_840e7 : MD := (yJ0_getBytes_840e7, cJ0_getBytes_840e7, 4, none)
def m_J0_init_81219 : MD := (yJ0_init_81219, cJ0_init_81219, 2, none)
def m_J0_init_db425 : MD := (yJ0_init_db425, cJ0_init_db425, 5, none)
def m_J0_isLatin1_aae02 : MD := (yJ0_isLatin1_aae02, cJ0_isLatin1_aae02, 1, (some .boolean))
def m_J0_length_8abf5 : MD := (yJ0_length_8abf5, cJ0_length_8abf5, 1, (some .int))
def m_J1_canEncode_fc78d : MD := (yJ1_canEncode_fc78d, cJ1_canEncode_fc78d, 1, (some .boolean))
def m_J1_charAt_3b067 : MD := (yJ1_charAt_3b067, cJ1_charAt_3b067, 2, (some .char))
def m_J1_fillNull_b72d1 : MD := (yJ1_fillNull_b72d1, cJ1_fillNull_b72d1, 3, none)
def m_J1_inflate_0e8fd : MD := (yJ1_inflate_0e8fd, cJ1_inflate_0e8fd, 5, none)
def m_J2_charAt_3b067 : MD := (yJ2_charAt_3b067, cJ2_charAt_3b067, 2, (some .char))
def m_J2_checkBoundsBeginEnd_d044e : MD := (yJ2_checkBoundsBeginEnd_d044e, cJ2_checkBoundsBeginEnd_d044e, 3, none)
def m_J2_checkBoundsOffCount_d044e : MD := (yJ2_checkBoundsOffCount_d044e, cJ2_checkBoundsOffCount_d044e, 3, none)
def m_J2_checkIndex_2214a : MD := (yJ2_checkIndex_2214a, cJ2_checkIndex_2214a, 2, none)
def m_J2_coderFromArrayLen_85cad : MD := (yJ2_coderFromArrayLen_85cad, cJ2_coderFromArrayLen_85cad, 2, (some .byte))
def m_J2_compress_39247 : MD := (yJ2_compress_39247, cJ2_compress_39247, 6, (some (.array .byte)))
def m_J2_compress_5af95 : MD := (yJ2_compress_5af95, cJ2_compress_5af95, 7, (some .int))
def m_J2_fillNull_b72d1 : MD := (yJ2_fillNull_b72d1, cJ2_fillNull_b72d1, 3, none)
def m_J2_getChar_3b067 : MD := (yJ2_getChar_3b067, cJ2_getChar_3b067, 2, (some .char))
def m_J2_getChars_46870 : MD := (yJ2_getChars_46870, cJ2_getChars_46870, 5, (some .int))
def m_J2_getChars_ba4f3 : MD := (yJ2_getChars_ba4f3, cJ2_getChars_ba4f3, 7, (some .int))
def m_J2_inflate_0e8fd : MD := (yJ2_inflate_0e8fd, cJ2_inflate_0e8fd, 6, none)
def m_J2_length_9d52b : MD := (yJ2_length_9d52b, cJ2_length_9d52b, 1, (some .int))
def m_J2_newBytesFor_77867 : MD := (yJ2_newBytesFor_77867, cJ2_newBytesFor_77867, 1, (some (.array .byte)))
def m_J2_newBytesLength_0f7a4 : MD := (yJ2_newBytesLength_0f7a4, cJ2_newBytesLength_0f7a4, 1, (some .int))
def m_J2_putCharSB_b72d1 : MD := (yJ2_putCharSB_b72d1, cJ2_putCharSB_b72d1, 3, none)
def m_J2_putChar_b72d1 : MD := (yJ2_putChar_b72d1, cJ2_putChar_b72d1, 3, none)
def m_J2_putCharsAt_cd4e5 : MD := (yJ2_putCharsAt_cd4e5, cJ2_putCharsAt_cd4e5, 7, (some .int))
def m_J3_checkFromIndexSize_8c36e : MD := (yJ3_checkFromIndexSize_8c36e, cJ3_checkFromIndexSize_8c36e, 4, (some .int))
def m_J3_checkFromToIndex_8c36e : MD := (yJ3_checkFromToIndex_8c36e, cJ3_checkFromToIndex_8c36e, 4, (some .int))
def m_J3_checkIndex_8e157 : MD := (yJ3_checkIndex_8e157, cJ3_checkIndex_8e157, 3, (some .int))
def m_J4_append_15ec4 : MD := (yJ4_append_15ec4, cJ4_append_15ec4, 2, (some (.object "java/lang/StringBuilder")))
def m_J4_append_bf812 : MD := (yJ4_append_bf812, cJ4_append_bf812, 2, (some (.object "java/lang/StringBuilder")))
def m_J4_append_cf468 : MD := (yJ4_append_cf468, cJ4_append_cf468, 2, (some (.object "java/lang/StringBuilder")))
def m_J4_charAt_5068e : MD := (yJ4_charAt_5068e, cJ4_charAt_5068e, 2, (some .char))
def m_J4_init_da8c8 : MD := (yJ4_init_da8c8, cJ4_init_da8c8, 1, none)
def m_J4_length_8abf5 : MD := (yJ4_length_8abf5, cJ4_length_8abf5, 1, (some .int))
def m_J4_setLength_d00df : MD := (yJ4_setLength_d00df, cJ4_setLength_d00df, 2, none)
def m_J4_toString_0e30d : MD := (yJ4_toString_0e30d, cJ4_toString_0e30d, 1, (some (.object "java/lang/String")))
def m_J5_appendNull_278bc : MD := (yJ5_appendNull_278bc, cJ5_appendNull_278bc, 3, (some (.object "java/lang/AbstractStringBuilder")))
def m_J5_append_3fe6f : MD := (yJ5_append_3fe6f, cJ5_append_3fe6f, 2, (some (.object "java/lang/AbstractStringBuilder")))
def m_J5_append_c97b9 : MD := (yJ5_append_c97b9, cJ5_append_c97b9, 4, (some (.object "java/lang/AbstractStringBuilder")))
def m_J5_append_cf1ce : MD := (yJ5_append_cf1ce, cJ5_append_cf1ce, 3, (some (.object "java/lang/AbstractStringBuilder")))
def m_J5_charAt_5068e : MD := (yJ5_charAt_5068e, cJ5_charAt_5068e, 5, (some .char))
def m_J5_ensureCapacityInternal_d00df : MD := (yJ5_ensureCapacityInternal_d00df, cJ5_ensureCapacityInternal_d00df, 3, none)
def m_J5_getValue_6d5f1 : MD := (yJ5_getValue_6d5f1, cJ5_getValue_6d5f1, 1, (some (.array .byte)))
def m_J5_inflateIfNeededFor_a7421 : MD := (yJ5_inflateIfNeededFor_a7421, cJ5_inflateIfNeededFor_a7421, 2, none)
def m_J5_inflate_da8c8 : MD := (yJ5_inflate_da8c8, cJ5_inflate_da8c8, 2, none)
def m_J5_init_d00df : MD := (yJ5_init_d00df, cJ5_init_d00df, 2, none)
def m_J5_isLatin1_aae02 : MD := (yJ5_isLatin1_aae02, cJ5_isLatin1_aae02, 1, (some .boolean))
def m_J5_length_8abf5 : MD := (yJ5_length_8abf5, cJ5_length_8abf5, 1, (some .int))
def m_J5_newCapacity_0f7a4 : MD := (yJ5_newCapacity_0f7a4, cJ5_newCapacity_0f7a4, 6, (some .int))
def m_J5_putStringAt_47b60 : MD := (yJ5_putStringAt_47b60, cJ5_putStringAt_47b60, 3, none)
def m_J5_setLength_d00df : MD := (yJ5_setLength_d00df, cJ5_setLength_d00df, 2, none)
def m_J6_getChars_ba4f3 : MD := (yJ6_getChars_ba4f3, cJ6_getChars_ba4f3, 7, (some .int))
def m_J6_stringSize_0f7a4 : MD := (yJ6_stringSize_0f7a4, cJ6_stringSize_0f7a4, 4, (some .int))
def m_J7_checkLength_df160 : MD := (yJ7_checkLength_df160, cJ7_checkLength_df160, 2, none)
def m_J7_copyOfRangeByte_39247 : MD := (yJ7_copyOfRangeByte_39247, cJ7_copyOfRangeByte_39247, 5, (some (.array .byte)))
def m_J7_copyOfRange_39247 : MD := (yJ7_copyOfRange_39247, cJ7_copyOfRange_39247, 3, (some (.array .byte)))
def m_J7_copyOf_9075b : MD := (yJ7_copyOf_9075b, cJ7_copyOf_9075b, 3, (some (.array .byte)))
def m_J7_fill_eb02e : MD := (yJ7_fill_eb02e, cJ7_fill_eb02e, 5, none)
def m_J7_rangeCheck_23922 : MD := (yJ7_rangeCheck_23922, cJ7_rangeCheck_23922, 3, none)
def m_J8_hugeLength_7cf53 : MD := (yJ8_hugeLength_7cf53, cJ8_hugeLength_7cf53, 3, (some .int))
def m_J8_newLength_cabcc : MD := (yJ8_newLength_cabcc, cJ8_newLength_cabcc, 4, (some .int))
def m_J9_max_7cf53 : MD := (yJ9_max_7cf53, cJ9_max_7cf53, 2, (some .int))
def m_J9_max_e70c8 : MD := (yJ9_max_e70c8, cJ9_max_e70c8, 2, (some .float))
def m_J9_min_7cf53 : MD := (yJ9_min_7cf53, cJ9_min_7cf53, 2, (some .int))
def m_Jx00060_init_a7421 : MD := (yJx00060_init_a7421, cJx00060_init_a7421, 2, none)
def m_Jx00060_init_d00df : MD := (yJx00060_init_d00df, cJx00060_init_d00df, 2, none)
def m_Jx29ce0_ordinal_8abf5 : MD := (yJx29ce0_ordinal_8abf5, cJx29ce0_ordinal_8abf5, 1, (some .int))
def m_Jx7c733_init_d00df : MD := (yJx7c733_init_d00df, cJx7c733_init_d00df, 2, none)
def m_Jxf58ca_floatToIntBits_5c35a : MD := (yJxf58ca_floatToIntBits_5c35a, cJxf58ca_floatToIntBits_5c35a, 1, (some .int))
def m_Jxf58ca_isNaN_12338 : MD := (yJxf58ca_isNaN_12338, cJxf58ca_isNaN_12338, 1, (some .boolean))
def m_L_acts : MD := (yL_acts, cL_acts, 9, none)
def m_L_build : MD := (yL_build, cL_build, 5, none)
def m_L_cell : MD := (yL_cell, cL_cell, 2, (some .int))
def m_L_eighths : MD := (yL_eighths, cL_eighths, 1, (some .int))
def m_L_isLine : MD := (yL_isLine, cL_isLine, 4, (some .boolean))
def m_L_least : MD := (yL_least, cL_least, 5, (some .int))
def m_L_pours : MD := (yL_pours, cL_pours, 5, (some .int))
def m_L_some : MD := (yL_some, cL_some, 3, (some .int))
def m_X1_copyFrom : MD := (yX1_copyFrom, cX1_copyFrom, 2, none)
def m_X1_exchangeAttendant : MD := (yX1_exchangeAttendant, cX1_exchangeAttendant, 3, (some .int))
def m_X1_exchangeCupPrice : MD := (yX1_exchangeCupPrice, cX1_exchangeCupPrice, 3, (some .int))
def m_X1_exchangeSteamPrice : MD := (yX1_exchangeSteamPrice, cX1_exchangeSteamPrice, 3, (some .int))
def m_X1_firstCanBeServed : MD := (yX1_firstCanBeServed, cX1_firstCanBeServed, 1, (some .boolean))
def m_X1_init : MD := (yX1_init, cX1_init, 1, none)
def m_X1_kettleForFirst : MD := (yX1_kettleForFirst, cX1_kettleForFirst, 1, (some .int))
def m_X1_passMinutes : MD := (yX1_passMinutes, cX1_passMinutes, 7, (some .int))
def m_X1_perform : MD := (yX1_perform, cX1_perform, 6, (some .int))
def m_X1_refusal : MD := (yX1_refusal, cX1_refusal, 6, (some (.object "TeaHouse$Refusal")))
def m_X1_refusalToFill : MD := (yX1_refusalToFill, cX1_refusalToFill, 4, (some (.object "TeaHouse$Refusal")))
def m_X1_sell : MD := (yX1_sell, cX1_sell, 3, (some .int))
def m_X1_serveFirst : MD := (yX1_serveFirst, cX1_serveFirst, 4, (some .int))
def m_X1_unless : MD := (yX1_unless, cX1_unless, 2, (some (.object "TeaHouse$Refusal")))
def m_X2_init : MD := (yX2_init, cX2_init, 1, none)
def m_X3_add : MD := (yX3_add, cX3_add, 3, (some .int))
def m_X3_copyFrom : MD := (yX3_copyFrom, cX3_copyFrom, 3, none)
def m_X3_describe : MD := (yX3_describe, cX3_describe, 3, none)
def m_X3_has : MD := (yX3_has, cX3_has, 2, (some .boolean))
def m_X3_heated : MD := (yX3_heated, cX3_heated, 2, (some .int))
def m_X3_heatingTime : MD := (yX3_heatingTime, cX3_heatingTime, 4, (some .int))
def m_X3_init : MD := (yX3_init, cX3_init, 1, none)
def m_X3_isAhead : MD := (yX3_isAhead, cX3_isAhead, 3, (some .boolean))
def m_X3_isRankedOnceEach : MD := (yX3_isRankedOnceEach, cX3_isRankedOnceEach, 4, (some .boolean))
def m_X3_passMinute : MD := (yX3_passMinute, cX3_passMinute, 3, (some .int))
def m_X3_pourIn : MD := (yX3_pourIn, cX3_pourIn, 5, (some .int))
def m_X3_rankOf : MD := (yX3_rankOf, cX3_rankOf, 4, (some .int))
def m_X3_ranked : MD := (yX3_ranked, cX3_ranked, 3, (some .int))
def m_X3_rise : MD := (yX3_rise, cX3_rise, 2, (some .int))
def m_X3_suitable : MD := (yX3_suitable, cX3_suitable, 6, (some .int))
def m_X3_totalVolume : MD := (yX3_totalVolume, cX3_totalVolume, 3, (some .int))
def m_X3_turnBurner : MD := (yX3_turnBurner, cX3_turnBurner, 4, (some .int))
def m_X4_copyFrom : MD := (yX4_copyFrom, cX4_copyFrom, 3, none)
def m_X4_describe : MD := (yX4_describe, cX4_describe, 3, none)
def m_X4_enterCups : MD := (yX4_enterCups, cX4_enterCups, 2, none)
def m_X4_enterNight : MD := (yX4_enterNight, cX4_enterNight, 2, (some .int))
def m_X4_enterSteam : MD := (yX4_enterSteam, cX4_enterSteam, 2, none)
def m_X4_greatestByAdding : MD := (yX4_greatestByAdding, cX4_greatestByAdding, 6, (some .int))
def m_X4_greatestByDifferences : MD := (yX4_greatestByDifferences, cX4_greatestByDifferences, 4, (some .int))
def m_X4_init : MD := (yX4_init, cX4_init, 1, none)
def m_X4_isConsistent : MD := (yX4_isConsistent, cX4_isConsistent, 2, (some .boolean))
def m_X4_rankOf : MD := (yX4_rankOf, cX4_rankOf, 4, (some .int))
def m_X4_ranked : MD := (yX4_ranked, cX4_ranked, 3, (some .int))
def m_X4_totalOfNights : MD := (yX4_totalOfNights, cX4_totalOfNights, 3, (some .int))
def m_X4_totalOfSales : MD := (yX4_totalOfSales, cX4_totalOfSales, 1, (some .int))
def m_X5_add : MD := (yX5_add, cX5_add, 6, (some .int))
def m_X5_copyFrom : MD := (yX5_copyFrom, cX5_copyFrom, 3, none)
def m_X5_copyOrder : MD := (yX5_copyOrder, cX5_copyOrder, 4, none)
def m_X5_describe : MD := (yX5_describe, cX5_describe, 3, none)
def m_X5_find : MD := (yX5_find, cX5_find, 3, (some .int))
def m_X5_init : MD := (yX5_init, cX5_init, 1, none)
def m_X5_isConsistent : MD := (yX5_isConsistent, cX5_isConsistent, 2, (some .boolean))
def m_X5_numberAt : MD := (yX5_numberAt, cX5_numberAt, 2, (some .int))
def m_X5_remove : MD := (yX5_remove, cX5_remove, 3, none)
def m_X8_addKettle : MD := (yX8_addKettle, cX8_addKettle, 2, (some .int))
def m_X8_allHeatingTimesAgree : MD := (yX8_allHeatingTimesAgree, cX8_allHeatingTimesAgree, 2, (some .boolean))
def m_X8_allTemperatureBitsFit : MD := (yX8_allTemperatureBitsFit, cX8_allTemperatureBitsFit, 3, (some .boolean))
def m_X8_bitsOfHalves : MD := (yX8_bitsOfHalves, cX8_bitsOfHalves, 4, (some .int))
def m_X8_boiledTotal : MD := (yX8_boiledTotal, cX8_boiledTotal, 1, (some .float))
def m_X8_burner : MD := (yX8_burner, cX8_burner, 2, (some .int))
def m_X8_canServe : MD := (yX8_canServe, cX8_canServe, 1, (some .boolean))
def m_X8_cancel : MD := (yX8_cancel, cX8_cancel, 2, (some .int))
def m_X8_capacity : MD := (yX8_capacity, cX8_capacity, 2, (some .float))
def m_X8_change : MD := (yX8_change, cX8_change, 6, (some .int))
def m_X8_cleanCups : MD := (yX8_cleanCups, cX8_cleanCups, 1, (some .int))
def m_X8_closeNight : MD := (yX8_closeNight, cX8_closeNight, 1, (some .float))
def m_X8_cupPrice : MD := (yX8_cupPrice, cX8_cupPrice, 1, (some .float))
def m_X8_cupsOf : MD := (yX8_cupsOf, cX8_cupsOf, 3, (some .int))
def m_X8_eighths : MD := (yX8_eighths, cX8_eighths, 1, (some .float))
def m_X8_fill : MD := (yX8_fill, cX8_fill, 3, (some .float))
def m_X8_filledTotal : MD := (yX8_filledTotal, cX8_filledTotal, 1, (some .float))
def m_X8_floatOfBits : MD := (yX8_floatOfBits, cX8_floatOfBits, 4, (some .float))
def m_X8_formatKettle : MD := (yX8_formatKettle, cX8_formatKettle, 2, (some .int))
def m_X8_formatLedger : MD := (yX8_formatLedger, cX8_formatLedger, 1, (some .int))
def m_X8_formatOrder : MD := (yX8_formatOrder, cX8_formatOrder, 3, (some .int))
def m_X8_greatestIncome : MD := (yX8_greatestIncome, cX8_greatestIncome, 2, (some .float))
def m_X8_greatestIncomeBySums : MD := (yX8_greatestIncomeBySums, cX8_greatestIncomeBySums, 2, (some .float))
def m_X8_halves : MD := (yX8_halves, cX8_halves, 1, (some .float))
def m_X8_heatingTimeOnCopy : MD := (yX8_heatingTimeOnCopy, cX8_heatingTimeOnCopy, 3, (some .int))
def m_X8_income : MD := (yX8_income, cX8_income, 1, (some .float))
def m_X8_init : MD := (yX8_init, cX8_init, 2, none)
def m_X8_isBalanced : MD := (yX8_isBalanced, cX8_isBalanced, 1, (some .boolean))
def m_X8_isBoiling : MD := (yX8_isBoiling, cX8_isBoiling, 2, (some .boolean))
def m_X8_isWithin : MD := (yX8_isWithin, cX8_isWithin, 3, (some .boolean))
def m_X8_kettleByTemperature : MD := (yX8_kettleByTemperature, cX8_kettleByTemperature, 2, (some .int))
def m_X8_kettleCount : MD := (yX8_kettleCount, cX8_kettleCount, 1, (some .int))
def m_X8_kettleFor : MD := (yX8_kettleFor, cX8_kettleFor, 3, (some .int))
def m_X8_lineChar : MD := (yX8_lineChar, cX8_lineChar, 2, (some .char))
def m_X8_lostShare : MD := (yX8_lostShare, cX8_lostShare, 2, (some .float))
def m_X8_meanTemperature : MD := (yX8_meanTemperature, cX8_meanTemperature, 5, (some .double))
def m_X8_minutesUntilBoiling : MD := (yX8_minutesUntilBoiling, cX8_minutesUntilBoiling, 2, (some .int))
def m_X8_minutesUntilBoilingByMinutes : MD := (yX8_minutesUntilBoilingByMinutes, cX8_minutesUntilBoilingByMinutes, 2, (some .int))
def m_X8_minutesUntilSuitable : MD := (yX8_minutesUntilSuitable, cX8_minutesUntilSuitable, 3, (some .int))
def m_X8_nightByIncome : MD := (yX8_nightByIncome, cX8_nightByIncome, 2, (some .int))
def m_X8_nightCount : MD := (yX8_nightCount, cX8_nightCount, 1, (some .int))
def m_X8_nightIncome : MD := (yX8_nightIncome, cX8_nightIncome, 2, (some .float))
def m_X8_order : MD := (yX8_order, cX8_order, 5, (some .int))
def m_X8_orderAt : MD := (yX8_orderAt, cX8_orderAt, 2, (some .int))
def m_X8_pass : MD := (yX8_pass, cX8_pass, 2, (some .int))
def m_X8_positionOf : MD := (yX8_positionOf, cX8_positionOf, 2, (some .int))
def m_X8_pouredTotal : MD := (yX8_pouredTotal, cX8_pouredTotal, 1, (some .float))
def m_X8_priceOf : MD := (yX8_priceOf, cX8_priceOf, 3, (some .float))
def m_X8_remember : MD := (yX8_remember, cX8_remember, 1, none)
def m_X8_requireAllowed : MD := (yX8_requireAllowed, cX8_requireAllowed, 1, none)
def m_X8_requireFound : MD := (yX8_requireFound, cX8_requireFound, 1, (some .int))
def m_X8_requireKettle : MD := (yX8_requireKettle, cX8_requireKettle, 2, none)
def m_X8_requireNights : MD := (yX8_requireNights, cX8_requireNights, 2, none)
def m_X8_sellSteam : MD := (yX8_sellSteam, cX8_sellSteam, 2, (some .float))
def m_X8_serveNext : MD := (yX8_serveNext, cX8_serveNext, 1, (some .int))
def m_X8_setAttendant : MD := (yX8_setAttendant, cX8_setAttendant, 2, (some .boolean))
def m_X8_setBurner : MD := (yX8_setBurner, cX8_setBurner, 3, (some .int))
def m_X8_setCupPrice : MD := (yX8_setCupPrice, cX8_setCupPrice, 2, (some .float))
def m_X8_setSteamPrice : MD := (yX8_setSteamPrice, cX8_setSteamPrice, 2, (some .float))
def m_X8_steam : MD := (yX8_steam, cX8_steam, 1, (some .float))
def m_X8_temperature : MD := (yX8_temperature, cX8_temperature, 2, (some .float))
def m_X8_temperatureBits : MD := (yX8_temperatureBits, cX8_temperatureBits, 2, (some .int))
def m_X8_totalIncome : MD := (yX8_totalIncome, cX8_totalIncome, 1, (some .float))
def m_X8_totalIncomeBySales : MD := (yX8_totalIncomeBySales, cX8_totalIncomeBySales, 1, (some .float))
def m_X8_undoableCount : MD := (yX8_undoableCount, cX8_undoableCount, 1, (some .int))
def m_X8_volume : MD := (yX8_volume, cX8_volume, 2, (some .float))
def m_X8_waitOnCopy : MD := (yX8_waitOnCopy, cX8_waitOnCopy, 5, (some .int))
def m_X8_waitingCount : MD := (yX8_waitingCount, cX8_waitingCount, 1, (some .int))
def m_X8_wash : MD := (yX8_wash, cX8_wash, 2, (some .int))
def m_X8_whistlesHeard : MD := (yX8_whistlesHeard, cX8_whistlesHeard, 1, (some .int))
def m_X8_whistlesLost : MD := (yX8_whistlesLost, cX8_whistlesLost, 1, (some .int))
theorem oi_X1_3 : Cond.methodLink "TeaHouse$House" 3 Lib.objectInit ∈ TW := TW_of (i := 71) (by decide +kernel) (by decide +kernel)
theorem nw_X1_9 : NW "TeaHouse$House" 9 6 6 := ⟨_, rfl, by decide, rfl, TW_of (i := 72) (by decide +kernel) (by decide +kernel), TW_of (i := 73) (by decide +kernel) (by decide +kernel), TW_of (i := 27) (by decide +kernel) (by decide +kernel), nw_def 6 6 (by decide +kernel)⟩
theorem im_X3_init : Cond.instanceMethod m_X3_init.1 ∈ TW := TW_of (i := 75) (by decide +kernel) (by decide +kernel)
theorem iw_X3 : Cond.initialized "TeaHouse$Kettles" ∈ TW := TW_of (i := 27) (by decide +kernel) (by decide +kernel)
theorem lb_X3_init : ∀ (own : String) (idx : Nat), LkB own idx m_X3_init 0 := fun _ _ => ⟨iw_X3, TW_of (i := 76) (by decide +kernel) (by decide +kernel), ⟨by decide +kernel, by decide +kernel⟩, by decide +kernel, by decide⟩
theorem lk_X1_11 : LkN "TeaHouse$House" 11 m_X3_init "TeaHouse" 0 := ⟨TW_of (i := 74) (by decide +kernel) (by decide +kernel), im_X3_init, rfl, rfl, lb_X3_init _ _⟩
theorem ff_X1_12 : FF "TeaHouse$House" 12 4 0 (.object "TeaHouse$Kettles") := ⟨_, rfl, by decide, by decide, TW_of (i := 173) (by decide +kernel) (by decide +kernel), rfl, by decide +kernel, rfl⟩
theorem nw_X1_18 : NW "TeaHouse$House" 18 8 7 := ⟨_, rfl, by decide, rfl, TW_of (i := 109) (by decide +kernel) (by decide +kernel), TW_of (i := 110) (by decide +kernel) (by decide +kernel), TW_of (i := 28) (by decide +kernel) (by decide +kernel), nw_def 8 7 (by decide +kernel)⟩
theorem im_X5_init : Cond.instanceMethod m_X5_init.1 ∈ TW := TW_of (i := 112) (by decide +kernel) (by decide +kernel)
theorem iw_X5 : Cond.initialized "TeaHouse$Orders" ∈ TW := TW_of (i := 28) (by decide +kernel) (by decide +kernel)
theorem lb_X5_init : ∀ (own : String) (idx : Nat), LkB own idx m_X5_init 0 := fun _ _ => ⟨iw_X5, TW_of (i := 113) (by decide +kernel) (by decide +kernel), ⟨by decide +kernel, by decide +kernel⟩, by decide +kernel, by decide⟩
theorem lk_X1_20 : LkN "TeaHouse$House" 20 m_X5_init "TeaHouse" 0 := ⟨TW_of (i := 111) (by decide +kernel) (by decide +kernel), im_X5_init, rfl, rfl, lb_X5_init _ _⟩
theorem ff_X1_21 : FF "TeaHouse$House" 21 4 1 (.object "TeaHouse$Orders") := ⟨_, rfl, by decide, by decide, TW_of (i := 175) (by decide +kernel) (by decide +kernel), rfl, by decide +kernel, rfl⟩
theorem nw_X1_25 : NW "TeaHouse$House" 25 7 6 := ⟨_, rfl, by decide, rfl, TW_of (i := 144) (by decide +kernel) (by decide +kernel), TW_of (i := 145) (by decide +kernel) (by decide +kernel), TW_of (i := 29) (by decide +kernel) (by decide +kernel), nw_def 7 6 (by decide +kernel)⟩
theorem im_X4_init : Cond.instanceMethod m_X4_init.1 ∈ TW := TW_of (i := 147) (by decide +kernel) (by decide +kernel)
theorem iw_X4 : Cond.initialized "TeaHouse$Ledger" ∈ TW := TW_of (i := 29) (by decide +kernel) (by decide +kernel)
theorem lb_X4_init : ∀ (own : String) (idx : Nat), LkB own idx m_X4_init 0 := fun _ _ => ⟨iw_X4, TW_of (i := 148) (by decide +kernel) (by decide +kernel), ⟨by decide +kernel, by decide +kernel⟩, by decide +kernel, by decide⟩
theorem lk_X1_27 : LkN "TeaHouse$House" 27 m_X4_init "TeaHouse" 0 := ⟨TW_of (i := 146) (by decide +kernel) (by decide +kernel), im_X4_init, rfl, rfl, lb_X4_init _ _⟩
theorem ff_X1_28 : FF "TeaHouse$House" 28 4 2 (.object "TeaHouse$Ledger") := ⟨_, rfl, by decide, by decide, TW_of (i := 177) (by decide +kernel) (by decide +kernel), rfl, by decide +kernel, rfl⟩
theorem pf_X1_32 : PF "TeaHouse$House" 32 4 3 .int := ⟨_, rfl, by decide, by decide, TW_of (i := 179) (by decide +kernel) (by decide +kernel), rfl, by decide +kernel⟩
theorem pf_X1_36 : PF "TeaHouse$House" 36 4 4 .int := ⟨_, rfl, by decide, by decide, TW_of (i := 181) (by decide +kernel) (by decide +kernel), rfl, by decide +kernel⟩
theorem pf_X1_39 : PF "TeaHouse$House" 39 4 5 .int := ⟨_, rfl, by decide, by decide, TW_of (i := 183) (by decide +kernel) (by decide +kernel), rfl, by decide +kernel⟩
theorem pf_X1_42 : PF "TeaHouse$House" 42 4 6 .int := ⟨_, rfl, by decide, by decide, TW_of (i := 185) (by decide +kernel) (by decide +kernel), rfl, by decide +kernel⟩
theorem pf_X1_45 : PF "TeaHouse$House" 45 4 7 .int := ⟨_, rfl, by decide, by decide, TW_of (i := 187) (by decide +kernel) (by decide +kernel), rfl, by decide +kernel⟩
theorem pf_X1_48 : PF "TeaHouse$House" 48 4 8 .int := ⟨_, rfl, by decide, by decide, TW_of (i := 189) (by decide +kernel) (by decide +kernel), rfl, by decide +kernel⟩
theorem pf_X1_51 : PF "TeaHouse$House" 51 4 9 .int := ⟨_, rfl, by decide, by decide, TW_of (i := 191) (by decide +kernel) (by decide +kernel), rfl, by decide +kernel⟩
theorem pf_X1_54 : PF "TeaHouse$House" 54 4 10 .boolean := ⟨_, rfl, by decide, by decide, TW_of (i := 192) (by decide +kernel) (by decide +kernel), rfl, by decide +kernel⟩
theorem pf_X1_58 : PF "TeaHouse$House" 58 4 11 .int := ⟨_, rfl, by decide, by decide, TW_of (i := 193) (by decide +kernel) (by decide +kernel), rfl, by decide +kernel⟩
theorem pf_X1_61 : PF "TeaHouse$House" 61 4 12 .int := ⟨_, rfl, by decide, by decide, TW_of (i := 194) (by decide +kernel) (by decide +kernel), rfl, by decide +kernel⟩
theorem pf_X1_64 : PF "TeaHouse$House" 64 4 13 .int := ⟨_, rfl, by decide, by decide, TW_of (i := 196) (by decide +kernel) (by decide +kernel), rfl, by decide +kernel⟩
theorem gf_X1_12 : GF "TeaHouse$House" 12 4 0 := ⟨_, rfl, by decide, by decide, TW_of (i := 173) (by decide +kernel) (by decide +kernel)⟩
theorem im_X3_copyFrom : Cond.instanceMethod m_X3_copyFrom.1 ∈ TW := TW_of (i := 754) (by decide +kernel) (by decide +kernel)
theorem sl_X3_copyFrom : Cond.selects "TeaHouse$Kettles" m_X3_copyFrom.1 m_X3_copyFrom.1 ∈ TW := TW_of (i := 755) (by decide +kernel) (by decide +kernel)
theorem lb_X3_copyFrom : ∀ (own : String) (idx : Nat), LkB own idx m_X3_copyFrom 1 := fun _ _ => ⟨iw_X3, TW_of (i := 756) (by decide +kernel) (by decide +kernel), ⟨by decide +kernel, by decide +kernel⟩, by decide +kernel, by decide⟩
theorem lk_X1_67 : LkV "TeaHouse$House" 67 "TeaHouse$Kettles" m_X3_copyFrom 1 := ⟨TW_of (i := 1198) (by decide +kernel) (by decide +kernel), im_X3_copyFrom, sl_X3_copyFrom, lb_X3_copyFrom _ _⟩
theorem gf_X1_21 : GF "TeaHouse$House" 21 4 1 := ⟨_, rfl, by decide, by decide, TW_of (i := 175) (by decide +kernel) (by decide +kernel)⟩
theorem im_X5_copyFrom : Cond.instanceMethod m_X5_copyFrom.1 ∈ TW := TW_of (i := 1200) (by decide +kernel) (by decide +kernel)
theorem sl_X5_copyFrom : Cond.selects "TeaHouse$Orders" m_X5_copyFrom.1 m_X5_copyFrom.1 ∈ TW := TW_of (i := 1201) (by decide +kernel) (by decide +kernel)
theorem lb_X5_copyFrom : ∀ (own : String) (idx : Nat), LkB own idx m_X5_copyFrom 1 := fun _ _ => ⟨iw_X5, TW_of (i := 1202) (by decide +kernel) (by decide +kernel), ⟨by decide +kernel, by decide +kernel⟩, by decide +kernel, by decide⟩
theorem lk_X1_71 : LkV "TeaHouse$House" 71 "TeaHouse$Orders" m_X5_copyFrom 1 := ⟨TW_of (i := 1199) (by decide +kernel) (by decide +kernel), im_X5_copyFrom, sl_X5_copyFrom, lb_X5_copyFrom _ _⟩
theorem gf_X1_28 : GF "TeaHouse$House" 28 4 2 := ⟨_, rfl, by decide, by decide, TW_of (i := 177) (by decide +kernel) (by decide +kernel)⟩
theorem im_X4_copyFrom : Cond.instanceMethod m_X4_copyFrom.1 ∈ TW := TW_of (i := 1208) (by decide +kernel) (by decide +kernel)
theorem sl_X4_copyFrom : Cond.selects "TeaHouse$Ledger" m_X4_copyFrom.1 m_X4_copyFrom.1 ∈ TW := TW_of (i := 1209) (by decide +kernel) (by decide +kernel)
theorem lb_X4_copyFrom : ∀ (own : String) (idx : Nat), LkB own idx m_X4_copyFrom 1 := fun _ _ => ⟨iw_X4, TW_of (i := 1210) (by decide +kernel) (by decide +kernel), ⟨by decide +kernel, by decide +kernel⟩, by decide +kernel, by decide⟩
theorem lk_X1_74 : LkV "TeaHouse$House" 74 "TeaHouse$Ledger" m_X4_copyFrom 1 := ⟨TW_of (i := 1207) (by decide +kernel) (by decide +kernel), im_X4_copyFrom, sl_X4_copyFrom, lb_X4_copyFrom _ _⟩
theorem gf_X1_32 : GF "TeaHouse$House" 32 4 3 := ⟨_, rfl, by decide, by decide, TW_of (i := 179) (by decide +kernel) (by decide +kernel)⟩
theorem gf_X1_36 : GF "TeaHouse$House" 36 4 4 := ⟨_, rfl, by decide, by decide, TW_of (i := 181) (by decide +kernel) (by decide +kernel)⟩
theorem gf_X1_39 : GF "TeaHouse$House" 39 4 5 := ⟨_, rfl, by decide, by decide, TW_of (i := 183) (by decide +kernel) (by decide +kernel)⟩
theorem gf_X1_42 : GF "TeaHouse$House" 42 4 6 := ⟨_, rfl, by decide, by decide, TW_of (i := 185) (by decide +kernel) (by decide +kernel)⟩
theorem gf_X1_45 : GF "TeaHouse$House" 45 4 7 := ⟨_, rfl, by decide, by decide, TW_of (i := 187) (by decide +kernel) (by decide +kernel)⟩
theorem gf_X1_48 : GF "TeaHouse$House" 48 4 8 := ⟨_, rfl, by decide, by decide, TW_of (i := 189) (by decide +kernel) (by decide +kernel)⟩
theorem gf_X1_51 : GF "TeaHouse$House" 51 4 9 := ⟨_, rfl, by decide, by decide, TW_of (i := 191) (by decide +kernel) (by decide +kernel)⟩
theorem gf_X1_54 : GF "TeaHouse$House" 54 4 10 := ⟨_, rfl, by decide, by decide, TW_of (i := 192) (by decide +kernel) (by decide +kernel)⟩
theorem gf_X1_58 : GF "TeaHouse$House" 58 4 11 := ⟨_, rfl, by decide, by decide, TW_of (i := 193) (by decide +kernel) (by decide +kernel)⟩
theorem gf_X1_61 : GF "TeaHouse$House" 61 4 12 := ⟨_, rfl, by decide, by decide, TW_of (i := 194) (by decide +kernel) (by decide +kernel)⟩
theorem gf_X1_64 : GF "TeaHouse$House" 64 4 13 := ⟨_, rfl, by decide, by decide, TW_of (i := 196) (by decide +kernel) (by decide +kernel)⟩
theorem gs_X1_77 : Cond.fieldLink "TeaHouse$House" 77 "TeaHouse$1" "$SwitchMap$TeaHouse$Verb" "[I" ∈ TW := TW_of (i := 517) (by decide +kernel) (by decide +kernel)
theorem sm_X8_isWithin : Cond.static m_X8_isWithin.1 ∈ TW := TW_of (i := 526) (by decide +kernel) (by decide +kernel)
theorem iw_X8 : Cond.initialized "TeaHouse" ∈ TW := TW_of (i := 25) (by decide +kernel) (by decide +kernel)
theorem lb_X8_isWithin : ∀ (own : String) (idx : Nat), LkB own idx m_X8_isWithin 3 := fun _ _ => ⟨iw_X8, TW_of (i := 527) (by decide +kernel) (by decide +kernel), ⟨by decide +kernel, by decide +kernel⟩, by decide +kernel, by decide⟩
theorem lk_X1_89 : LkSN "TeaHouse$House" 89 m_X8_isWithin "TeaHouse" 3 := ⟨TW_of (i := 525) (by decide +kernel) (by decide +kernel), sm_X8_isWithin, lb_X8_isWithin _ _⟩
theorem gf_X1_93 : GF "TeaHouse$House" 93 6 5 := ⟨_, rfl, by decide, by decide, TW_of (i := 92) (by decide +kernel) (by decide +kernel)⟩
theorem sm_X1_unless : Cond.static m_X1_unless.1 ∈ TW := TW_of (i := 529) (by decide +kernel) (by decide +kernel)
theorem iw_X1 : Cond.initialized "TeaHouse$House" ∈ TW := TW_of (i := 26) (by decide +kernel) (by decide +kernel)
theorem lb_X1_unless : ∀ (own : String) (idx : Nat), LkB own idx m_X1_unless 2 := fun _ _ => ⟨iw_X1, TW_of (i := 530) (by decide +kernel) (by decide +kernel), ⟨by decide +kernel, by decide +kernel⟩, by decide +kernel, by decide⟩
theorem lk_X1_96 : LkS "TeaHouse$House" 96 m_X1_unless 2 := ⟨TW_of (i := 528) (by decide +kernel) (by decide +kernel), sm_X1_unless, lb_X1_unless _ _⟩
theorem im_X1_refusalToFill : Cond.instanceMethod m_X1_refusalToFill.1 ∈ TW := TW_of (i := 539) (by decide +kernel) (by decide +kernel)
theorem sl_X1_refusalToFill : Cond.selects "TeaHouse$House" m_X1_refusalToFill.1 m_X1_refusalToFill.1 ∈ TW := TW_of (i := 4) (by decide +kernel) (by decide +kernel)
theorem lb_X1_refusalToFill : ∀ (own : String) (idx : Nat), LkB own idx m_X1_refusalToFill 2 := fun _ _ => ⟨iw_X1, TW_of (i := 540) (by decide +kernel) (by decide +kernel), ⟨by decide +kernel, by decide +kernel⟩, by decide +kernel, by decide⟩
theorem lk_X1_100 : LkV "TeaHouse$House" 100 "TeaHouse$House" m_X1_refusalToFill 2 := ⟨TW_of (i := 537) (by decide +kernel) (by decide +kernel), im_X1_refusalToFill, sl_X1_refusalToFill, lb_X1_refusalToFill _ _⟩
theorem im_X3_has : Cond.instanceMethod m_X3_has.1 ∈ TW := TW_of (i := 339) (by decide +kernel) (by decide +kernel)
theorem sl_X3_has : Cond.selects "TeaHouse$Kettles" m_X3_has.1 m_X3_has.1 ∈ TW := TW_of (i := 340) (by decide +kernel) (by decide +kernel)
theorem lb_X3_has : ∀ (own : String) (idx : Nat), LkB own idx m_X3_has 1 := fun _ _ => ⟨iw_X3, TW_of (i := 341) (by decide +kernel) (by decide +kernel), ⟨by decide +kernel, by decide +kernel⟩, by decide +kernel, by decide⟩
theorem lk_X1_104 : LkV "TeaHouse$House" 104 "TeaHouse$Kettles" m_X3_has 1 := ⟨TW_of (i := 541) (by decide +kernel) (by decide +kernel), im_X3_has, sl_X3_has, lb_X3_has _ _⟩
theorem gs_X1_108 : Cond.fieldLink "TeaHouse$House" 108 "TeaHouse$Refusal" "NO_SUCH_KETTLE" "LTeaHouse$Refusal;" ∈ TW := TW_of (i := 542) (by decide +kernel) (by decide +kernel)
theorem gf_X1_114 : GF "TeaHouse$House" 114 8 5 := ⟨_, rfl, by decide, by decide, TW_of (i := 126) (by decide +kernel) (by decide +kernel)⟩
theorem im_X5_find : Cond.instanceMethod m_X5_find.1 ∈ TW := TW_of (i := 496) (by decide +kernel) (by decide +kernel)
theorem sl_X5_find : Cond.selects "TeaHouse$Orders" m_X5_find.1 m_X5_find.1 ∈ TW := TW_of (i := 497) (by decide +kernel) (by decide +kernel)
theorem lb_X5_find : ∀ (own : String) (idx : Nat), LkB own idx m_X5_find 1 := fun _ _ => ⟨iw_X5, TW_of (i := 498) (by decide +kernel) (by decide +kernel), ⟨by decide +kernel, by decide +kernel⟩, by decide +kernel, by decide⟩
theorem lk_X1_115 : LkV "TeaHouse$House" 115 "TeaHouse$Orders" m_X5_find 1 := ⟨TW_of (i := 544) (by decide +kernel) (by decide +kernel), im_X5_find, sl_X5_find, lb_X5_find _ _⟩
theorem gs_X1_119 : Cond.fieldLink "TeaHouse$House" 119 "TeaHouse$Refusal" "NO_SUCH_ORDER" "LTeaHouse$Refusal;" ∈ TW := TW_of (i := 545) (by decide +kernel) (by decide +kernel)
theorem gs_X1_122 : Cond.fieldLink "TeaHouse$House" 122 "TeaHouse$Refusal" "NOTHING" "LTeaHouse$Refusal;" ∈ TW := TW_of (i := 533) (by decide +kernel) (by decide +kernel)
theorem im_X1_firstCanBeServed : Cond.instanceMethod m_X1_firstCanBeServed.1 ∈ TW := TW_of (i := 549) (by decide +kernel) (by decide +kernel)
theorem sl_X1_firstCanBeServed : Cond.selects "TeaHouse$House" m_X1_firstCanBeServed.1 m_X1_firstCanBeServed.1 ∈ TW := TW_of (i := 5) (by decide +kernel) (by decide +kernel)
theorem lb_X1_firstCanBeServed : ∀ (own : String) (idx : Nat), LkB own idx m_X1_firstCanBeServed 0 := fun _ _ => ⟨iw_X1, TW_of (i := 550) (by decide +kernel) (by decide +kernel), ⟨by decide +kernel, by decide +kernel⟩, by decide +kernel, by decide⟩
theorem lk_X1_125 : LkV "TeaHouse$House" 125 "TeaHouse$House" m_X1_firstCanBeServed 0 := ⟨TW_of (i := 547) (by decide +kernel) (by decide +kernel), im_X1_firstCanBeServed, sl_X1_firstCanBeServed, lb_X1_firstCanBeServed _ _⟩
theorem gf_X1_129 : GF "TeaHouse$House" 129 7 2 := ⟨_, rfl, by decide, by decide, TW_of (i := 154) (by decide +kernel) (by decide +kernel)⟩
theorem im_X3_add : Cond.instanceMethod m_X3_add.1 ∈ TW := TW_of (i := 1217) (by decide +kernel) (by decide +kernel)
theorem sl_X3_add : Cond.selects "TeaHouse$Kettles" m_X3_add.1 m_X3_add.1 ∈ TW := TW_of (i := 1218) (by decide +kernel) (by decide +kernel)
theorem lb_X3_add : ∀ (own : String) (idx : Nat), LkB own idx m_X3_add 1 := fun _ _ => ⟨iw_X3, TW_of (i := 1219) (by decide +kernel) (by decide +kernel), ⟨by decide +kernel, by decide +kernel⟩, by decide +kernel, by decide⟩
theorem lk_X1_130 : LkV "TeaHouse$House" 130 "TeaHouse$Kettles" m_X3_add 1 := ⟨TW_of (i := 1216) (by decide +kernel) (by decide +kernel), im_X3_add, sl_X3_add, lb_X3_add _ _⟩
theorem im_X3_pourIn : Cond.instanceMethod m_X3_pourIn.1 ∈ TW := TW_of (i := 1221) (by decide +kernel) (by decide +kernel)
theorem sl_X3_pourIn : Cond.selects "TeaHouse$Kettles" m_X3_pourIn.1 m_X3_pourIn.1 ∈ TW := TW_of (i := 1222) (by decide +kernel) (by decide +kernel)
theorem lb_X3_pourIn : ∀ (own : String) (idx : Nat), LkB own idx m_X3_pourIn 2 := fun _ _ => ⟨iw_X3, TW_of (i := 1223) (by decide +kernel) (by decide +kernel), ⟨by decide +kernel, by decide +kernel⟩, by decide +kernel, by decide⟩
theorem lk_X1_133 : LkV "TeaHouse$House" 133 "TeaHouse$Kettles" m_X3_pourIn 2 := ⟨TW_of (i := 1220) (by decide +kernel) (by decide +kernel), im_X3_pourIn, sl_X3_pourIn, lb_X3_pourIn _ _⟩
theorem im_X3_turnBurner : Cond.instanceMethod m_X3_turnBurner.1 ∈ TW := TW_of (i := 1225) (by decide +kernel) (by decide +kernel)
theorem sl_X3_turnBurner : Cond.selects "TeaHouse$Kettles" m_X3_turnBurner.1 m_X3_turnBurner.1 ∈ TW := TW_of (i := 1226) (by decide +kernel) (by decide +kernel)
theorem lb_X3_turnBurner : ∀ (own : String) (idx : Nat), LkB own idx m_X3_turnBurner 2 := fun _ _ => ⟨iw_X3, TW_of (i := 1227) (by decide +kernel) (by decide +kernel), ⟨by decide +kernel, by decide +kernel⟩, by decide +kernel, by decide⟩
theorem lk_X1_137 : LkV "TeaHouse$House" 137 "TeaHouse$Kettles" m_X3_turnBurner 2 := ⟨TW_of (i := 1224) (by decide +kernel) (by decide +kernel), im_X3_turnBurner, sl_X3_turnBurner, lb_X3_turnBurner _ _⟩
theorem im_X5_add : Cond.instanceMethod m_X5_add.1 ∈ TW := TW_of (i := 1229) (by decide +kernel) (by decide +kernel)
theorem sl_X5_add : Cond.selects "TeaHouse$Orders" m_X5_add.1 m_X5_add.1 ∈ TW := TW_of (i := 1230) (by decide +kernel) (by decide +kernel)
theorem lb_X5_add : ∀ (own : String) (idx : Nat), LkB own idx m_X5_add 4 := fun _ _ => ⟨iw_X5, TW_of (i := 1231) (by decide +kernel) (by decide +kernel), ⟨by decide +kernel, by decide +kernel⟩, by decide +kernel, by decide⟩
theorem lk_X1_140 : LkV "TeaHouse$House" 140 "TeaHouse$Orders" m_X5_add 4 := ⟨TW_of (i := 1228) (by decide +kernel) (by decide +kernel), im_X5_add, sl_X5_add, lb_X5_add _ _⟩
theorem im_X5_remove : Cond.instanceMethod m_X5_remove.1 ∈ TW := TW_of (i := 1233) (by decide +kernel) (by decide +kernel)
theorem sl_X5_remove : Cond.selects "TeaHouse$Orders" m_X5_remove.1 m_X5_remove.1 ∈ TW := TW_of (i := 1234) (by decide +kernel) (by decide +kernel)
theorem lb_X5_remove : ∀ (own : String) (idx : Nat), LkB own idx m_X5_remove 1 := fun _ _ => ⟨iw_X5, TW_of (i := 1235) (by decide +kernel) (by decide +kernel), ⟨by decide +kernel, by decide +kernel⟩, by decide +kernel, by decide⟩
theorem lk_X1_143 : LkV "TeaHouse$House" 143 "TeaHouse$Orders" m_X5_remove 1 := ⟨TW_of (i := 1232) (by decide +kernel) (by decide +kernel), im_X5_remove, sl_X5_remove, lb_X5_remove _ _⟩
theorem im_X1_serveFirst : Cond.instanceMethod m_X1_serveFirst.1 ∈ TW := TW_of (i := 1238) (by decide +kernel) (by decide +kernel)
theorem sl_X1_serveFirst : Cond.selects "TeaHouse$House" m_X1_serveFirst.1 m_X1_serveFirst.1 ∈ TW := TW_of (i := 18) (by decide +kernel) (by decide +kernel)
theorem lb_X1_serveFirst : ∀ (own : String) (idx : Nat), LkB own idx m_X1_serveFirst 0 := fun _ _ => ⟨iw_X1, TW_of (i := 1239) (by decide +kernel) (by decide +kernel), ⟨by decide +kernel, by decide +kernel⟩, by decide +kernel, by decide⟩
theorem lk_X1_147 : LkV "TeaHouse$House" 147 "TeaHouse$House" m_X1_serveFirst 0 := ⟨TW_of (i := 1236) (by decide +kernel) (by decide +kernel), im_X1_serveFirst, sl_X1_serveFirst, lb_X1_serveFirst _ _⟩
theorem im_X1_sell : Cond.instanceMethod m_X1_sell.1 ∈ TW := TW_of (i := 1246) (by decide +kernel) (by decide +kernel)
theorem sl_X1_sell : Cond.selects "TeaHouse$House" m_X1_sell.1 m_X1_sell.1 ∈ TW := TW_of (i := 19) (by decide +kernel) (by decide +kernel)
theorem lb_X1_sell : ∀ (own : String) (idx : Nat), LkB own idx m_X1_sell 1 := fun _ _ => ⟨iw_X1, TW_of (i := 1247) (by decide +kernel) (by decide +kernel), ⟨by decide +kernel, by decide +kernel⟩, by decide +kernel, by decide⟩
theorem lk_X1_150 : LkV "TeaHouse$House" 150 "TeaHouse$House" m_X1_sell 1 := ⟨TW_of (i := 1244) (by decide +kernel) (by decide +kernel), im_X1_sell, sl_X1_sell, lb_X1_sell _ _⟩
theorem im_X1_passMinutes : Cond.instanceMethod m_X1_passMinutes.1 ∈ TW := TW_of (i := 1254) (by decide +kernel) (by decide +kernel)
theorem sl_X1_passMinutes : Cond.selects "TeaHouse$House" m_X1_passMinutes.1 m_X1_passMinutes.1 ∈ TW := TW_of (i := 20) (by decide +kernel) (by decide +kernel)
theorem lb_X1_passMinutes : ∀ (own : String) (idx : Nat), LkB own idx m_X1_passMinutes 1 := fun _ _ => ⟨iw_X1, TW_of (i := 1255) (by decide +kernel) (by decide +kernel), ⟨by decide +kernel, by decide +kernel⟩, by decide +kernel, by decide⟩
theorem lk_X1_153 : LkV "TeaHouse$House" 153 "TeaHouse$House" m_X1_passMinutes 1 := ⟨TW_of (i := 1252) (by decide +kernel) (by decide +kernel), im_X1_passMinutes, sl_X1_passMinutes, lb_X1_passMinutes _ _⟩
theorem im_X1_exchangeCupPrice : Cond.instanceMethod m_X1_exchangeCupPrice.1 ∈ TW := TW_of (i := 1259) (by decide +kernel) (by decide +kernel)
theorem sl_X1_exchangeCupPrice : Cond.selects "TeaHouse$House" m_X1_exchangeCupPrice.1 m_X1_exchangeCupPrice.1 ∈ TW := TW_of (i := 21) (by decide +kernel) (by decide +kernel)
theorem lb_X1_exchangeCupPrice : ∀ (own : String) (idx : Nat), LkB own idx m_X1_exchangeCupPrice 1 := fun _ _ => ⟨iw_X1, TW_of (i := 1260) (by decide +kernel) (by decide +kernel), ⟨by decide +kernel, by decide +kernel⟩, by decide +kernel, by decide⟩
theorem lk_X1_156 : LkV "TeaHouse$House" 156 "TeaHouse$House" m_X1_exchangeCupPrice 1 := ⟨TW_of (i := 1257) (by decide +kernel) (by decide +kernel), im_X1_exchangeCupPrice, sl_X1_exchangeCupPrice, lb_X1_exchangeCupPrice _ _⟩
theorem im_X1_exchangeSteamPrice : Cond.instanceMethod m_X1_exchangeSteamPrice.1 ∈ TW := TW_of (i := 1263) (by decide +kernel) (by decide +kernel)
theorem sl_X1_exchangeSteamPrice : Cond.selects "TeaHouse$House" m_X1_exchangeSteamPrice.1 m_X1_exchangeSteamPrice.1 ∈ TW := TW_of (i := 22) (by decide +kernel) (by decide +kernel)
theorem lb_X1_exchangeSteamPrice : ∀ (own : String) (idx : Nat), LkB own idx m_X1_exchangeSteamPrice 1 := fun _ _ => ⟨iw_X1, TW_of (i := 1264) (by decide +kernel) (by decide +kernel), ⟨by decide +kernel, by decide +kernel⟩, by decide +kernel, by decide⟩
theorem lk_X1_159 : LkV "TeaHouse$House" 159 "TeaHouse$House" m_X1_exchangeSteamPrice 1 := ⟨TW_of (i := 1261) (by decide +kernel) (by decide +kernel), im_X1_exchangeSteamPrice, sl_X1_exchangeSteamPrice, lb_X1_exchangeSteamPrice _ _⟩
theorem im_X1_exchangeAttendant : Cond.instanceMethod m_X1_exchangeAttendant.1 ∈ TW := TW_of (i := 1267) (by decide +kernel) (by decide +kernel)
theorem sl_X1_exchangeAttendant : Cond.selects "TeaHouse$House" m_X1_exchangeAttendant.1 m_X1_exchangeAttendant.1 ∈ TW := TW_of (i := 23) (by decide +kernel) (by decide +kernel)
theorem lb_X1_exchangeAttendant : ∀ (own : String) (idx : Nat), LkB own idx m_X1_exchangeAttendant 1 := fun _ _ => ⟨iw_X1, TW_of (i := 1268) (by decide +kernel) (by decide +kernel), ⟨by decide +kernel, by decide +kernel⟩, by decide +kernel, by decide⟩
theorem lk_X1_162 : LkV "TeaHouse$House" 162 "TeaHouse$House" m_X1_exchangeAttendant 1 := ⟨TW_of (i := 1265) (by decide +kernel) (by decide +kernel), im_X1_exchangeAttendant, sl_X1_exchangeAttendant, lb_X1_exchangeAttendant _ _⟩
theorem im_X4_enterNight : Cond.instanceMethod m_X4_enterNight.1 ∈ TW := TW_of (i := 1270) (by decide +kernel) (by decide +kernel)
theorem sl_X4_enterNight : Cond.selects "TeaHouse$Ledger" m_X4_enterNight.1 m_X4_enterNight.1 ∈ TW := TW_of (i := 1271) (by decide +kernel) (by decide +kernel)
theorem lb_X4_enterNight : ∀ (own : String) (idx : Nat), LkB own idx m_X4_enterNight 0 := fun _ _ => ⟨iw_X4, TW_of (i := 1272) (by decide +kernel) (by decide +kernel), ⟨by decide +kernel, by decide +kernel⟩, by decide +kernel, by decide⟩
theorem lk_X1_166 : LkV "TeaHouse$House" 166 "TeaHouse$Ledger" m_X4_enterNight 0 := ⟨TW_of (i := 1269) (by decide +kernel) (by decide +kernel), im_X4_enterNight, sl_X4_enterNight, lb_X4_enterNight _ _⟩
theorem gs_X1_169 : Cond.fieldLink "TeaHouse$House" 169 "TeaHouse$Refusal" "OUT_OF_RANGE" "LTeaHouse$Refusal;" ∈ TW := TW_of (i := 531) (by decide +kernel) (by decide +kernel)
theorem gs_X1_172 : Cond.fieldLink "TeaHouse$House" 172 "TeaHouse$Refusal" "NOT_NOW" "LTeaHouse$Refusal;" ∈ TW := TW_of (i := 535) (by decide +kernel) (by decide +kernel)
theorem gf_X1_175 : GF "TeaHouse$House" 175 6 1 := ⟨_, rfl, by decide, by decide, TW_of (i := 82) (by decide +kernel) (by decide +kernel)⟩
theorem gf_X1_178 : GF "TeaHouse$House" 178 6 0 := ⟨_, rfl, by decide, by decide, TW_of (i := 79) (by decide +kernel) (by decide +kernel)⟩
theorem gf_X1_181 : GF "TeaHouse$House" 181 8 2 := ⟨_, rfl, by decide, by decide, TW_of (i := 119) (by decide +kernel) (by decide +kernel)⟩
theorem gf_X1_184 : GF "TeaHouse$House" 184 8 3 := ⟨_, rfl, by decide, by decide, TW_of (i := 122) (by decide +kernel) (by decide +kernel)⟩
theorem im_X3_suitable : Cond.instanceMethod m_X3_suitable.1 ∈ TW := TW_of (i := 556) (by decide +kernel) (by decide +kernel)
theorem sl_X3_suitable : Cond.selects "TeaHouse$Kettles" m_X3_suitable.1 m_X3_suitable.1 ∈ TW := TW_of (i := 557) (by decide +kernel) (by decide +kernel)
theorem lb_X3_suitable : ∀ (own : String) (idx : Nat), LkB own idx m_X3_suitable 2 := fun _ _ => ⟨iw_X3, TW_of (i := 558) (by decide +kernel) (by decide +kernel), ⟨by decide +kernel, by decide +kernel⟩, by decide +kernel, by decide⟩
theorem lk_X1_187 : LkV "TeaHouse$House" 187 "TeaHouse$Kettles" m_X3_suitable 2 := ⟨TW_of (i := 555) (by decide +kernel) (by decide +kernel), im_X3_suitable, sl_X3_suitable, lb_X3_suitable _ _⟩
theorem im_X1_kettleForFirst : Cond.instanceMethod m_X1_kettleForFirst.1 ∈ TW := TW_of (i := 553) (by decide +kernel) (by decide +kernel)
theorem sl_X1_kettleForFirst : Cond.selects "TeaHouse$House" m_X1_kettleForFirst.1 m_X1_kettleForFirst.1 ∈ TW := TW_of (i := 6) (by decide +kernel) (by decide +kernel)
theorem lb_X1_kettleForFirst : ∀ (own : String) (idx : Nat), LkB own idx m_X1_kettleForFirst 0 := fun _ _ => ⟨iw_X1, TW_of (i := 554) (by decide +kernel) (by decide +kernel), ⟨by decide +kernel, by decide +kernel⟩, by decide +kernel, by decide⟩
theorem lk_X1_190 : LkV "TeaHouse$House" 190 "TeaHouse$House" m_X1_kettleForFirst 0 := ⟨TW_of (i := 551) (by decide +kernel) (by decide +kernel), im_X1_kettleForFirst, sl_X1_kettleForFirst, lb_X1_kettleForFirst _ _⟩
theorem gf_X1_193 : GF "TeaHouse$House" 193 8 0 := ⟨_, rfl, by decide, by decide, TW_of (i := 116) (by decide +kernel) (by decide +kernel)⟩
theorem im_X4_enterCups : Cond.instanceMethod m_X4_enterCups.1 ∈ TW := TW_of (i := 1241) (by decide +kernel) (by decide +kernel)
theorem sl_X4_enterCups : Cond.selects "TeaHouse$Ledger" m_X4_enterCups.1 m_X4_enterCups.1 ∈ TW := TW_of (i := 1242) (by decide +kernel) (by decide +kernel)
theorem lb_X4_enterCups : ∀ (own : String) (idx : Nat), LkB own idx m_X4_enterCups 1 := fun _ _ => ⟨iw_X4, TW_of (i := 1243) (by decide +kernel) (by decide +kernel), ⟨by decide +kernel, by decide +kernel⟩, by decide +kernel, by decide⟩
theorem lk_X1_196 : LkV "TeaHouse$House" 196 "TeaHouse$Ledger" m_X4_enterCups 1 := ⟨TW_of (i := 1240) (by decide +kernel) (by decide +kernel), im_X4_enterCups, sl_X4_enterCups, lb_X4_enterCups _ _⟩
theorem im_X4_enterSteam : Cond.instanceMethod m_X4_enterSteam.1 ∈ TW := TW_of (i := 1249) (by decide +kernel) (by decide +kernel)
theorem sl_X4_enterSteam : Cond.selects "TeaHouse$Ledger" m_X4_enterSteam.1 m_X4_enterSteam.1 ∈ TW := TW_of (i := 1250) (by decide +kernel) (by decide +kernel)
theorem lb_X4_enterSteam : ∀ (own : String) (idx : Nat), LkB own idx m_X4_enterSteam 1 := fun _ _ => ⟨iw_X4, TW_of (i := 1251) (by decide +kernel) (by decide +kernel), ⟨by decide +kernel, by decide +kernel⟩, by decide +kernel, by decide⟩
theorem lk_X1_199 : LkV "TeaHouse$House" 199 "TeaHouse$Ledger" m_X4_enterSteam 1 := ⟨TW_of (i := 1248) (by decide +kernel) (by decide +kernel), im_X4_enterSteam, sl_X4_enterSteam, lb_X4_enterSteam _ _⟩
theorem gf_X1_202 : GF "TeaHouse$House" 202 6 4 := ⟨_, rfl, by decide, by decide, TW_of (i := 89) (by decide +kernel) (by decide +kernel)⟩
theorem im_X3_passMinute : Cond.instanceMethod m_X3_passMinute.1 ∈ TW := TW_of (i := 758) (by decide +kernel) (by decide +kernel)
theorem sl_X3_passMinute : Cond.selects "TeaHouse$Kettles" m_X3_passMinute.1 m_X3_passMinute.1 ∈ TW := TW_of (i := 759) (by decide +kernel) (by decide +kernel)
theorem lb_X3_passMinute : ∀ (own : String) (idx : Nat), LkB own idx m_X3_passMinute 1 := fun _ _ => ⟨iw_X3, TW_of (i := 760) (by decide +kernel) (by decide +kernel), ⟨by decide +kernel, by decide +kernel⟩, by decide +kernel, by decide⟩
theorem lk_X1_205 : LkV "TeaHouse$House" 205 "TeaHouse$Kettles" m_X3_passMinute 1 := ⟨TW_of (i := 1256) (by decide +kernel) (by decide +kernel), im_X3_passMinute, sl_X3_passMinute, lb_X3_passMinute _ _⟩
theorem oi_X2_3 : Cond.methodLink "TeaHouse$Input" 3 Lib.objectInit ∈ TW := TW_of (i := 235) (by decide +kernel) (by decide +kernel)
theorem ff_X2_9 : FF "TeaHouse$Input" 9 5 0 (.array .char) := ⟨_, rfl, by decide, by decide, TW_of (i := 236) (by decide +kernel) (by decide +kernel), rfl, by decide +kernel, rfl⟩
theorem ff_X2_15 : FF "TeaHouse$Input" 15 5 1 (.array .int) := ⟨_, rfl, by decide, by decide, TW_of (i := 237) (by decide +kernel) (by decide +kernel), rfl, by decide +kernel, rfl⟩
theorem ff_X2_19 : FF "TeaHouse$Input" 19 5 2 (.array .int) := ⟨_, rfl, by decide, by decide, TW_of (i := 238) (by decide +kernel) (by decide +kernel), rfl, by decide +kernel, rfl⟩
theorem pf_X2_22 : PF "TeaHouse$Input" 22 5 3 .int := ⟨_, rfl, by decide, by decide, TW_of (i := 239) (by decide +kernel) (by decide +kernel), rfl, by decide +kernel⟩
theorem pf_X2_26 : PF "TeaHouse$Input" 26 5 4 .int := ⟨_, rfl, by decide, by decide, TW_of (i := 240) (by decide +kernel) (by decide +kernel), rfl, by decide +kernel⟩
theorem pf_X2_29 : PF "TeaHouse$Input" 29 5 5 .int := ⟨_, rfl, by decide, by decide, TW_of (i := 241) (by decide +kernel) (by decide +kernel), rfl, by decide +kernel⟩
theorem oi_X3_3 : Cond.methodLink "TeaHouse$Kettles" 3 Lib.objectInit ∈ TW := TW_of (i := 77) (by decide +kernel) (by decide +kernel)
theorem ff_X3_9 : FF "TeaHouse$Kettles" 9 6 0 (.array .int) := ⟨_, rfl, by decide, by decide, TW_of (i := 78) (by decide +kernel) (by decide +kernel), rfl, by decide +kernel, rfl⟩
theorem ff_X3_15 : FF "TeaHouse$Kettles" 15 6 1 (.array .int) := ⟨_, rfl, by decide, by decide, TW_of (i := 81) (by decide +kernel) (by decide +kernel), rfl, by decide +kernel, rfl⟩
theorem ff_X3_18 : FF "TeaHouse$Kettles" 18 6 2 (.array .int) := ⟨_, rfl, by decide, by decide, TW_of (i := 84) (by decide +kernel) (by decide +kernel), rfl, by decide +kernel, rfl⟩
theorem ff_X3_21 : FF "TeaHouse$Kettles" 21 6 3 (.array .int) := ⟨_, rfl, by decide, by decide, TW_of (i := 86) (by decide +kernel) (by decide +kernel), rfl, by decide +kernel, rfl⟩
theorem ff_X3_24 : FF "TeaHouse$Kettles" 24 6 4 (.array .boolean) := ⟨_, rfl, by decide, by decide, TW_of (i := 88) (by decide +kernel) (by decide +kernel), rfl, by decide +kernel, rfl⟩
theorem pf_X3_28 : PF "TeaHouse$Kettles" 28 6 5 .int := ⟨_, rfl, by decide, by decide, TW_of (i := 91) (by decide +kernel) (by decide +kernel), rfl, by decide +kernel⟩
theorem gf_X3_28 : GF "TeaHouse$Kettles" 28 6 5 := ⟨_, rfl, by decide, by decide, TW_of (i := 91) (by decide +kernel) (by decide +kernel)⟩
theorem gf_X3_9 : GF "TeaHouse$Kettles" 9 6 0 := ⟨_, rfl, by decide, by decide, TW_of (i := 78) (by decide +kernel) (by decide +kernel)⟩
theorem gf_X3_15 : GF "TeaHouse$Kettles" 15 6 1 := ⟨_, rfl, by decide, by decide, TW_of (i := 81) (by decide +kernel) (by decide +kernel)⟩
theorem gf_X3_18 : GF "TeaHouse$Kettles" 18 6 2 := ⟨_, rfl, by decide, by decide, TW_of (i := 84) (by decide +kernel) (by decide +kernel)⟩
theorem gf_X3_21 : GF "TeaHouse$Kettles" 21 6 3 := ⟨_, rfl, by decide, by decide, TW_of (i := 86) (by decide +kernel) (by decide +kernel)⟩
theorem gf_X3_24 : GF "TeaHouse$Kettles" 24 6 4 := ⟨_, rfl, by decide, by decide, TW_of (i := 88) (by decide +kernel) (by decide +kernel)⟩
theorem im_X3_heated : Cond.instanceMethod m_X3_heated.1 ∈ TW := TW_of (i := 763) (by decide +kernel) (by decide +kernel)
theorem sl_X3_heated : Cond.selects "TeaHouse$Kettles" m_X3_heated.1 m_X3_heated.1 ∈ TW := TW_of (i := 13) (by decide +kernel) (by decide +kernel)
theorem lb_X3_heated : ∀ (own : String) (idx : Nat), LkB own idx m_X3_heated 1 := fun _ _ => ⟨iw_X3, TW_of (i := 764) (by decide +kernel) (by decide +kernel), ⟨by decide +kernel, by decide +kernel⟩, by decide +kernel, by decide⟩
theorem lk_X3_32 : LkV "TeaHouse$Kettles" 32 "TeaHouse$Kettles" m_X3_heated 1 := ⟨TW_of (i := 761) (by decide +kernel) (by decide +kernel), im_X3_heated, sl_X3_heated, lb_X3_heated _ _⟩
theorem mm_X3_36 : Cond.methodLink "TeaHouse$Kettles" 36 Lib.Math.min.name ∈ TW := TW_of (i := 765) (by decide +kernel) (by decide +kernel)
theorem im_X3_rise : Cond.instanceMethod m_X3_rise.1 ∈ TW := TW_of (i := 746) (by decide +kernel) (by decide +kernel)
theorem sl_X3_rise : Cond.selects "TeaHouse$Kettles" m_X3_rise.1 m_X3_rise.1 ∈ TW := TW_of (i := 11) (by decide +kernel) (by decide +kernel)
theorem lb_X3_rise : ∀ (own : String) (idx : Nat), LkB own idx m_X3_rise 1 := fun _ _ => ⟨iw_X3, TW_of (i := 747) (by decide +kernel) (by decide +kernel), ⟨by decide +kernel, by decide +kernel⟩, by decide +kernel, by decide⟩
theorem lk_X3_42 : LkV "TeaHouse$Kettles" 42 "TeaHouse$Kettles" m_X3_rise 1 := ⟨TW_of (i := 744) (by decide +kernel) (by decide +kernel), im_X3_rise, sl_X3_rise, lb_X3_rise _ _⟩
theorem mm_X3_45 : Cond.methodLink "TeaHouse$Kettles" 45 Lib.Math.max.name ∈ TW := TW_of (i := 748) (by decide +kernel) (by decide +kernel)
theorem im_X3_rankOf : Cond.instanceMethod m_X3_rankOf.1 ∈ TW := TW_of (i := 454) (by decide +kernel) (by decide +kernel)
theorem sl_X3_rankOf : Cond.selects "TeaHouse$Kettles" m_X3_rankOf.1 m_X3_rankOf.1 ∈ TW := TW_of (i := 2) (by decide +kernel) (by decide +kernel)
theorem lb_X3_rankOf : ∀ (own : String) (idx : Nat), LkB own idx m_X3_rankOf 1 := fun _ _ => ⟨iw_X3, TW_of (i := 455) (by decide +kernel) (by decide +kernel), ⟨by decide +kernel, by decide +kernel⟩, by decide +kernel, by decide⟩
theorem lk_X3_48 : LkV "TeaHouse$Kettles" 48 "TeaHouse$Kettles" m_X3_rankOf 1 := ⟨TW_of (i := 452) (by decide +kernel) (by decide +kernel), im_X3_rankOf, sl_X3_rankOf, lb_X3_rankOf _ _⟩
theorem im_X3_isAhead : Cond.instanceMethod m_X3_isAhead.1 ∈ TW := TW_of (i := 458) (by decide +kernel) (by decide +kernel)
theorem sl_X3_isAhead : Cond.selects "TeaHouse$Kettles" m_X3_isAhead.1 m_X3_isAhead.1 ∈ TW := TW_of (i := 3) (by decide +kernel) (by decide +kernel)
theorem lb_X3_isAhead : ∀ (own : String) (idx : Nat), LkB own idx m_X3_isAhead 2 := fun _ _ => ⟨iw_X3, TW_of (i := 459) (by decide +kernel) (by decide +kernel), ⟨by decide +kernel, by decide +kernel⟩, by decide +kernel, by decide⟩
theorem lk_X3_51 : LkV "TeaHouse$Kettles" 51 "TeaHouse$Kettles" m_X3_isAhead 2 := ⟨TW_of (i := 456) (by decide +kernel) (by decide +kernel), im_X3_isAhead, sl_X3_isAhead, lb_X3_isAhead _ _⟩
theorem im_X3_ranked : Cond.instanceMethod m_X3_ranked.1 ∈ TW := TW_of (i := 449) (by decide +kernel) (by decide +kernel)
theorem sl_X3_ranked : Cond.selects "TeaHouse$Kettles" m_X3_ranked.1 m_X3_ranked.1 ∈ TW := TW_of (i := 450) (by decide +kernel) (by decide +kernel)
theorem lb_X3_ranked : ∀ (own : String) (idx : Nat), LkB own idx m_X3_ranked 1 := fun _ _ => ⟨iw_X3, TW_of (i := 451) (by decide +kernel) (by decide +kernel), ⟨by decide +kernel, by decide +kernel⟩, by decide +kernel, by decide⟩
theorem lk_X3_55 : LkV "TeaHouse$Kettles" 55 "TeaHouse$Kettles" m_X3_ranked 1 := ⟨TW_of (i := 725) (by decide +kernel) (by decide +kernel), im_X3_ranked, sl_X3_ranked, lb_X3_ranked _ _⟩
theorem lk_X3_58 : LkV "TeaHouse$Kettles" 58 "TeaHouse$Kettles" m_X3_has 1 := ⟨TW_of (i := 726) (by decide +kernel) (by decide +kernel), im_X3_has, sl_X3_has, lb_X3_has _ _⟩
theorem im_J4_append_cf468 : Cond.instanceMethod m_J4_append_cf468.1 ∈ TW := TW_of (i := 1048) (by decide +kernel) (by decide +kernel)
theorem sl_J4_append_cf468 : Cond.selects "java/lang/StringBuilder" m_J4_append_cf468.1 m_J4_append_cf468.1 ∈ TW := TW_of (i := 1049) (by decide +kernel) (by decide +kernel)
theorem iw_J4 : Cond.initialized "java/lang/StringBuilder" ∈ TW := TW_of (i := 32) (by decide +kernel) (by decide +kernel)
theorem lb_J4_append_cf468 : ∀ (own : String) (idx : Nat), LkB own idx m_J4_append_cf468 1 := fun _ _ => ⟨iw_J4, TW_of (i := 1050) (by decide +kernel) (by decide +kernel), ⟨by decide +kernel, by decide +kernel⟩, by decide +kernel, by decide⟩
theorem lk_X3_62 : LkV "TeaHouse$Kettles" 62 "java/lang/StringBuilder" m_J4_append_cf468 1 := ⟨TW_of (i := 1047) (by decide +kernel) (by decide +kernel), im_J4_append_cf468, sl_J4_append_cf468, lb_J4_append_cf468 _ _⟩
theorem im_J4_append_bf812 : Cond.instanceMethod m_J4_append_bf812.1 ∈ TW := TW_of (i := 904) (by decide +kernel) (by decide +kernel)
theorem sl_J4_append_bf812 : Cond.selects "java/lang/StringBuilder" m_J4_append_bf812.1 m_J4_append_bf812.1 ∈ TW := TW_of (i := 905) (by decide +kernel) (by decide +kernel)
theorem lb_J4_append_bf812 : ∀ (own : String) (idx : Nat), LkB own idx m_J4_append_bf812 1 := fun _ _ => ⟨iw_J4, TW_of (i := 906) (by decide +kernel) (by decide +kernel), ⟨by decide +kernel, by decide +kernel⟩, by decide +kernel, by decide⟩
theorem lk_X3_68 : LkV "TeaHouse$Kettles" 68 "java/lang/StringBuilder" m_J4_append_bf812 1 := ⟨TW_of (i := 1069) (by decide +kernel) (by decide +kernel), im_J4_append_bf812, sl_J4_append_bf812, lb_J4_append_bf812 _ _⟩
theorem im_J4_append_15ec4 : Cond.instanceMethod m_J4_append_15ec4.1 ∈ TW := TW_of (i := 788) (by decide +kernel) (by decide +kernel)
theorem sl_J4_append_15ec4 : Cond.selects "java/lang/StringBuilder" m_J4_append_15ec4.1 m_J4_append_15ec4.1 ∈ TW := TW_of (i := 789) (by decide +kernel) (by decide +kernel)
theorem lb_J4_append_15ec4 : ∀ (own : String) (idx : Nat), LkB own idx m_J4_append_15ec4 1 := fun _ _ => ⟨iw_J4, TW_of (i := 790) (by decide +kernel) (by decide +kernel), ⟨by decide +kernel, by decide +kernel⟩, by decide +kernel, by decide⟩
theorem lk_X3_73 : LkV "TeaHouse$Kettles" 73 "java/lang/StringBuilder" m_J4_append_15ec4 1 := ⟨TW_of (i := 1071) (by decide +kernel) (by decide +kernel), im_J4_append_15ec4, sl_J4_append_15ec4, lb_J4_append_15ec4 _ _⟩
theorem oi_X4_3 : Cond.methodLink "TeaHouse$Ledger" 3 Lib.objectInit ∈ TW := TW_of (i := 149) (by decide +kernel) (by decide +kernel)
theorem ff_X4_9 : FF "TeaHouse$Ledger" 9 7 0 (.array .int) := ⟨_, rfl, by decide, by decide, TW_of (i := 150) (by decide +kernel) (by decide +kernel), rfl, by decide +kernel, rfl⟩
theorem ff_X4_15 : FF "TeaHouse$Ledger" 15 7 1 (.array .int) := ⟨_, rfl, by decide, by decide, TW_of (i := 152) (by decide +kernel) (by decide +kernel), rfl, by decide +kernel, rfl⟩
theorem pf_X4_18 : PF "TeaHouse$Ledger" 18 7 2 .int := ⟨_, rfl, by decide, by decide, TW_of (i := 153) (by decide +kernel) (by decide +kernel), rfl, by decide +kernel⟩
theorem pf_X4_22 : PF "TeaHouse$Ledger" 22 7 3 .int := ⟨_, rfl, by decide, by decide, TW_of (i := 156) (by decide +kernel) (by decide +kernel), rfl, by decide +kernel⟩
theorem pf_X4_25 : PF "TeaHouse$Ledger" 25 7 4 .int := ⟨_, rfl, by decide, by decide, TW_of (i := 158) (by decide +kernel) (by decide +kernel), rfl, by decide +kernel⟩
theorem pf_X4_28 : PF "TeaHouse$Ledger" 28 7 5 .int := ⟨_, rfl, by decide, by decide, TW_of (i := 159) (by decide +kernel) (by decide +kernel), rfl, by decide +kernel⟩
theorem gf_X4_18 : GF "TeaHouse$Ledger" 18 7 2 := ⟨_, rfl, by decide, by decide, TW_of (i := 153) (by decide +kernel) (by decide +kernel)⟩
theorem gf_X4_22 : GF "TeaHouse$Ledger" 22 7 3 := ⟨_, rfl, by decide, by decide, TW_of (i := 156) (by decide +kernel) (by decide +kernel)⟩
theorem gf_X4_25 : GF "TeaHouse$Ledger" 25 7 4 := ⟨_, rfl, by decide, by decide, TW_of (i := 158) (by decide +kernel) (by decide +kernel)⟩
theorem gf_X4_28 : GF "TeaHouse$Ledger" 28 7 5 := ⟨_, rfl, by decide, by decide, TW_of (i := 159) (by decide +kernel) (by decide +kernel)⟩
theorem gf_X4_9 : GF "TeaHouse$Ledger" 9 7 0 := ⟨_, rfl, by decide, by decide, TW_of (i := 150) (by decide +kernel) (by decide +kernel)⟩
theorem gf_X4_15 : GF "TeaHouse$Ledger" 15 7 1 := ⟨_, rfl, by decide, by decide, TW_of (i := 152) (by decide +kernel) (by decide +kernel)⟩
theorem im_X4_rankOf : Cond.instanceMethod m_X4_rankOf.1 ∈ TW := TW_of (i := 607) (by decide +kernel) (by decide +kernel)
theorem sl_X4_rankOf : Cond.selects "TeaHouse$Ledger" m_X4_rankOf.1 m_X4_rankOf.1 ∈ TW := TW_of (i := 7) (by decide +kernel) (by decide +kernel)
theorem lb_X4_rankOf : ∀ (own : String) (idx : Nat), LkB own idx m_X4_rankOf 1 := fun _ _ => ⟨iw_X4, TW_of (i := 608) (by decide +kernel) (by decide +kernel), ⟨by decide +kernel, by decide +kernel⟩, by decide +kernel, by decide⟩
theorem lk_X4_31 : LkV "TeaHouse$Ledger" 31 "TeaHouse$Ledger" m_X4_rankOf 1 := ⟨TW_of (i := 605) (by decide +kernel) (by decide +kernel), im_X4_rankOf, sl_X4_rankOf, lb_X4_rankOf _ _⟩
theorem mm_X4_35 : Cond.methodLink "TeaHouse$Ledger" 35 Lib.Math.max.name ∈ TW := TW_of (i := 639) (by decide +kernel) (by decide +kernel)
theorem im_X4_greatestByAdding : Cond.instanceMethod m_X4_greatestByAdding.1 ∈ TW := TW_of (i := 636) (by decide +kernel) (by decide +kernel)
theorem sl_X4_greatestByAdding : Cond.selects "TeaHouse$Ledger" m_X4_greatestByAdding.1 m_X4_greatestByAdding.1 ∈ TW := TW_of (i := 637) (by decide +kernel) (by decide +kernel)
theorem lb_X4_greatestByAdding : ∀ (own : String) (idx : Nat), LkB own idx m_X4_greatestByAdding 1 := fun _ _ => ⟨iw_X4, TW_of (i := 638) (by decide +kernel) (by decide +kernel), ⟨by decide +kernel, by decide +kernel⟩, by decide +kernel, by decide⟩
theorem lk_X4_41 : LkV "TeaHouse$Ledger" 41 "TeaHouse$Ledger" m_X4_greatestByAdding 1 := ⟨TW_of (i := 711) (by decide +kernel) (by decide +kernel), im_X4_greatestByAdding, sl_X4_greatestByAdding, lb_X4_greatestByAdding _ _⟩
theorem im_X4_greatestByDifferences : Cond.instanceMethod m_X4_greatestByDifferences.1 ∈ TW := TW_of (i := 647) (by decide +kernel) (by decide +kernel)
theorem sl_X4_greatestByDifferences : Cond.selects "TeaHouse$Ledger" m_X4_greatestByDifferences.1 m_X4_greatestByDifferences.1 ∈ TW := TW_of (i := 648) (by decide +kernel) (by decide +kernel)
theorem lb_X4_greatestByDifferences : ∀ (own : String) (idx : Nat), LkB own idx m_X4_greatestByDifferences 1 := fun _ _ => ⟨iw_X4, TW_of (i := 649) (by decide +kernel) (by decide +kernel), ⟨by decide +kernel, by decide +kernel⟩, by decide +kernel, by decide⟩
theorem lk_X4_44 : LkV "TeaHouse$Ledger" 44 "TeaHouse$Ledger" m_X4_greatestByDifferences 1 := ⟨TW_of (i := 712) (by decide +kernel) (by decide +kernel), im_X4_greatestByDifferences, sl_X4_greatestByDifferences, lb_X4_greatestByDifferences _ _⟩
theorem im_X4_totalOfNights : Cond.instanceMethod m_X4_totalOfNights.1 ∈ TW := TW_of (i := 655) (by decide +kernel) (by decide +kernel)
theorem sl_X4_totalOfNights : Cond.selects "TeaHouse$Ledger" m_X4_totalOfNights.1 m_X4_totalOfNights.1 ∈ TW := TW_of (i := 656) (by decide +kernel) (by decide +kernel)
theorem lb_X4_totalOfNights : ∀ (own : String) (idx : Nat), LkB own idx m_X4_totalOfNights 0 := fun _ _ => ⟨iw_X4, TW_of (i := 657) (by decide +kernel) (by decide +kernel), ⟨by decide +kernel, by decide +kernel⟩, by decide +kernel, by decide⟩
theorem lk_X4_47 : LkV "TeaHouse$Ledger" 47 "TeaHouse$Ledger" m_X4_totalOfNights 0 := ⟨TW_of (i := 713) (by decide +kernel) (by decide +kernel), im_X4_totalOfNights, sl_X4_totalOfNights, lb_X4_totalOfNights _ _⟩
theorem im_X4_totalOfSales : Cond.instanceMethod m_X4_totalOfSales.1 ∈ TW := TW_of (i := 663) (by decide +kernel) (by decide +kernel)
theorem sl_X4_totalOfSales : Cond.selects "TeaHouse$Ledger" m_X4_totalOfSales.1 m_X4_totalOfSales.1 ∈ TW := TW_of (i := 664) (by decide +kernel) (by decide +kernel)
theorem lb_X4_totalOfSales : ∀ (own : String) (idx : Nat), LkB own idx m_X4_totalOfSales 0 := fun _ _ => ⟨iw_X4, TW_of (i := 665) (by decide +kernel) (by decide +kernel), ⟨by decide +kernel, by decide +kernel⟩, by decide +kernel, by decide⟩
theorem lk_X4_51 : LkV "TeaHouse$Ledger" 51 "TeaHouse$Ledger" m_X4_totalOfSales 0 := ⟨TW_of (i := 714) (by decide +kernel) (by decide +kernel), im_X4_totalOfSales, sl_X4_totalOfSales, lb_X4_totalOfSales _ _⟩
theorem lk_X4_54 : LkV "TeaHouse$Ledger" 54 "java/lang/StringBuilder" m_J4_append_cf468 1 := ⟨TW_of (i := 1081) (by decide +kernel) (by decide +kernel), im_J4_append_cf468, sl_J4_append_cf468, lb_J4_append_cf468 _ _⟩
theorem lk_X4_60 : LkV "TeaHouse$Ledger" 60 "java/lang/StringBuilder" m_J4_append_bf812 1 := ⟨TW_of (i := 1082) (by decide +kernel) (by decide +kernel), im_J4_append_bf812, sl_J4_append_bf812, lb_J4_append_bf812 _ _⟩
theorem oi_X5_3 : Cond.methodLink "TeaHouse$Orders" 3 Lib.objectInit ∈ TW := TW_of (i := 114) (by decide +kernel) (by decide +kernel)
theorem ff_X5_9 : FF "TeaHouse$Orders" 9 8 0 (.array .int) := ⟨_, rfl, by decide, by decide, TW_of (i := 115) (by decide +kernel) (by decide +kernel), rfl, by decide +kernel, rfl⟩
theorem ff_X5_15 : FF "TeaHouse$Orders" 15 8 1 (.array .int) := ⟨_, rfl, by decide, by decide, TW_of (i := 117) (by decide +kernel) (by decide +kernel), rfl, by decide +kernel, rfl⟩
theorem ff_X5_18 : FF "TeaHouse$Orders" 18 8 2 (.array .int) := ⟨_, rfl, by decide, by decide, TW_of (i := 118) (by decide +kernel) (by decide +kernel), rfl, by decide +kernel, rfl⟩
theorem ff_X5_21 : FF "TeaHouse$Orders" 21 8 3 (.array .int) := ⟨_, rfl, by decide, by decide, TW_of (i := 121) (by decide +kernel) (by decide +kernel), rfl, by decide +kernel, rfl⟩
theorem ff_X5_24 : FF "TeaHouse$Orders" 24 8 4 (.array .int) := ⟨_, rfl, by decide, by decide, TW_of (i := 124) (by decide +kernel) (by decide +kernel), rfl, by decide +kernel, rfl⟩
theorem pf_X5_27 : PF "TeaHouse$Orders" 27 8 5 .int := ⟨_, rfl, by decide, by decide, TW_of (i := 125) (by decide +kernel) (by decide +kernel), rfl, by decide +kernel⟩
theorem pf_X5_31 : PF "TeaHouse$Orders" 31 8 6 .int := ⟨_, rfl, by decide, by decide, TW_of (i := 128) (by decide +kernel) (by decide +kernel), rfl, by decide +kernel⟩
theorem gf_X5_27 : GF "TeaHouse$Orders" 27 8 5 := ⟨_, rfl, by decide, by decide, TW_of (i := 125) (by decide +kernel) (by decide +kernel)⟩
theorem gf_X5_31 : GF "TeaHouse$Orders" 31 8 6 := ⟨_, rfl, by decide, by decide, TW_of (i := 128) (by decide +kernel) (by decide +kernel)⟩
theorem im_X5_copyOrder : Cond.instanceMethod m_X5_copyOrder.1 ∈ TW := TW_of (i := 1205) (by decide +kernel) (by decide +kernel)
theorem sl_X5_copyOrder : Cond.selects "TeaHouse$Orders" m_X5_copyOrder.1 m_X5_copyOrder.1 ∈ TW := TW_of (i := 17) (by decide +kernel) (by decide +kernel)
theorem lb_X5_copyOrder : ∀ (own : String) (idx : Nat), LkB own idx m_X5_copyOrder 3 := fun _ _ => ⟨iw_X5, TW_of (i := 1206) (by decide +kernel) (by decide +kernel), ⟨by decide +kernel, by decide +kernel⟩, by decide +kernel, by decide⟩
theorem lk_X5_34 : LkV "TeaHouse$Orders" 34 "TeaHouse$Orders" m_X5_copyOrder 3 := ⟨TW_of (i := 1203) (by decide +kernel) (by decide +kernel), im_X5_copyOrder, sl_X5_copyOrder, lb_X5_copyOrder _ _⟩
theorem gf_X5_9 : GF "TeaHouse$Orders" 9 8 0 := ⟨_, rfl, by decide, by decide, TW_of (i := 115) (by decide +kernel) (by decide +kernel)⟩
theorem gf_X5_15 : GF "TeaHouse$Orders" 15 8 1 := ⟨_, rfl, by decide, by decide, TW_of (i := 117) (by decide +kernel) (by decide +kernel)⟩
theorem gf_X5_18 : GF "TeaHouse$Orders" 18 8 2 := ⟨_, rfl, by decide, by decide, TW_of (i := 118) (by decide +kernel) (by decide +kernel)⟩
theorem gf_X5_21 : GF "TeaHouse$Orders" 21 8 3 := ⟨_, rfl, by decide, by decide, TW_of (i := 121) (by decide +kernel) (by decide +kernel)⟩
theorem gf_X5_24 : GF "TeaHouse$Orders" 24 8 4 := ⟨_, rfl, by decide, by decide, TW_of (i := 124) (by decide +kernel) (by decide +kernel)⟩
theorem im_X5_numberAt : Cond.instanceMethod m_X5_numberAt.1 ∈ TW := TW_of (i := 488) (by decide +kernel) (by decide +kernel)
theorem sl_X5_numberAt : Cond.selects "TeaHouse$Orders" m_X5_numberAt.1 m_X5_numberAt.1 ∈ TW := TW_of (i := 489) (by decide +kernel) (by decide +kernel)
theorem lb_X5_numberAt : ∀ (own : String) (idx : Nat), LkB own idx m_X5_numberAt 1 := fun _ _ => ⟨iw_X5, TW_of (i := 490) (by decide +kernel) (by decide +kernel), ⟨by decide +kernel, by decide +kernel⟩, by decide +kernel, by decide⟩
theorem lk_X5_38 : LkV "TeaHouse$Orders" 38 "TeaHouse$Orders" m_X5_numberAt 1 := ⟨TW_of (i := 719) (by decide +kernel) (by decide +kernel), im_X5_numberAt, sl_X5_numberAt, lb_X5_numberAt _ _⟩
theorem lk_X5_42 : LkV "TeaHouse$Orders" 42 "TeaHouse$Orders" m_X5_find 1 := ⟨TW_of (i := 720) (by decide +kernel) (by decide +kernel), im_X5_find, sl_X5_find, lb_X5_find _ _⟩
theorem lk_X5_45 : LkV "TeaHouse$Orders" 45 "java/lang/StringBuilder" m_J4_append_cf468 1 := ⟨TW_of (i := 1396) (by decide +kernel) (by decide +kernel), im_J4_append_cf468, sl_J4_append_cf468, lb_J4_append_cf468 _ _⟩
theorem lk_X5_51 : LkV "TeaHouse$Orders" 51 "java/lang/StringBuilder" m_J4_append_bf812 1 := ⟨TW_of (i := 1397) (by decide +kernel) (by decide +kernel), im_J4_append_bf812, sl_J4_append_bf812, lb_J4_append_bf812 _ _⟩
theorem lk_X5_56 : LkV "TeaHouse$Orders" 56 "java/lang/StringBuilder" m_J4_append_15ec4 1 := ⟨TW_of (i := 1399) (by decide +kernel) (by decide +kernel), im_J4_append_15ec4, sl_J4_append_15ec4, lb_J4_append_15ec4 _ _⟩
theorem oi_X8_3 : Cond.methodLink "TeaHouse" 3 Lib.objectInit ∈ TW := TW_of (i := 63) (by decide +kernel) (by decide +kernel)
theorem nw_X8_9 : NW "TeaHouse" 9 4 14 := ⟨_, rfl, by decide, rfl, TW_of (i := 66) (by decide +kernel) (by decide +kernel), TW_of (i := 67) (by decide +kernel) (by decide +kernel), TW_of (i := 26) (by decide +kernel) (by decide +kernel), nw_def 4 14 (by decide +kernel)⟩
theorem im_X1_init : Cond.instanceMethod m_X1_init.1 ∈ TW := TW_of (i := 69) (by decide +kernel) (by decide +kernel)
theorem lb_X1_init : ∀ (own : String) (idx : Nat), LkB own idx m_X1_init 0 := fun _ _ => ⟨iw_X1, TW_of (i := 70) (by decide +kernel) (by decide +kernel), ⟨by decide +kernel, by decide +kernel⟩, by decide +kernel, by decide⟩
theorem lk_X8_11 : LkN "TeaHouse" 11 m_X1_init "TeaHouse" 0 := ⟨TW_of (i := 68) (by decide +kernel) (by decide +kernel), im_X1_init, rfl, rfl, lb_X1_init _ _⟩
theorem ff_X8_12 : FF "TeaHouse" 12 9 0 (.object "TeaHouse$House") := ⟨_, rfl, by decide, by decide, TW_of (i := 289) (by decide +kernel) (by decide +kernel), rfl, by decide +kernel, rfl⟩
theorem ff_X8_16 : FF "TeaHouse" 16 9 1 (.object "TeaHouse$House") := ⟨_, rfl, by decide, by decide, TW_of (i := 290) (by decide +kernel) (by decide +kernel), rfl, by decide +kernel, rfl⟩
theorem ff_X8_19 : FF "TeaHouse" 19 9 2 (.object "TeaHouse$House") := ⟨_, rfl, by decide, by decide, TW_of (i := 291) (by decide +kernel) (by decide +kernel), rfl, by decide +kernel, rfl⟩
theorem ff_X8_22 : FF "TeaHouse" 22 9 3 (.array (.object "TeaHouse$House")) := ⟨_, rfl, by decide, by decide, TW_of (i := 292) (by decide +kernel) (by decide +kernel), rfl, by decide +kernel, rfl⟩
theorem nw_X8_26 : NW "TeaHouse" 26 6 6 := ⟨_, rfl, by decide, rfl, TW_of (i := 228) (by decide +kernel) (by decide +kernel), TW_of (i := 73) (by decide +kernel) (by decide +kernel), TW_of (i := 27) (by decide +kernel) (by decide +kernel), nw_def 6 6 (by decide +kernel)⟩
theorem lk_X8_28 : LkN "TeaHouse" 28 m_X3_init "TeaHouse" 0 := ⟨TW_of (i := 229) (by decide +kernel) (by decide +kernel), im_X3_init, rfl, rfl, lb_X3_init _ _⟩
theorem ff_X8_29 : FF "TeaHouse" 29 9 4 (.object "TeaHouse$Kettles") := ⟨_, rfl, by decide, by decide, TW_of (i := 293) (by decide +kernel) (by decide +kernel), rfl, by decide +kernel, rfl⟩
theorem nw_X8_33 : NW "TeaHouse" 33 5 6 := ⟨_, rfl, by decide, rfl, TW_of (i := 230) (by decide +kernel) (by decide +kernel), TW_of (i := 231) (by decide +kernel) (by decide +kernel), TW_of (i := 30) (by decide +kernel) (by decide +kernel), nw_def 5 6 (by decide +kernel)⟩
theorem im_X2_init : Cond.instanceMethod m_X2_init.1 ∈ TW := TW_of (i := 233) (by decide +kernel) (by decide +kernel)
theorem iw_X2 : Cond.initialized "TeaHouse$Input" ∈ TW := TW_of (i := 30) (by decide +kernel) (by decide +kernel)
theorem lb_X2_init : ∀ (own : String) (idx : Nat), LkB own idx m_X2_init 0 := fun _ _ => ⟨iw_X2, TW_of (i := 234) (by decide +kernel) (by decide +kernel), ⟨by decide +kernel, by decide +kernel⟩, by decide +kernel, by decide⟩
theorem lk_X8_35 : LkN "TeaHouse" 35 m_X2_init "TeaHouse" 0 := ⟨TW_of (i := 232) (by decide +kernel) (by decide +kernel), im_X2_init, rfl, rfl, lb_X2_init _ _⟩
theorem ff_X8_36 : FF "TeaHouse" 36 9 5 (.object "TeaHouse$Input") := ⟨_, rfl, by decide, by decide, TW_of (i := 294) (by decide +kernel) (by decide +kernel), rfl, by decide +kernel, rfl⟩
theorem nw_X8_40 : NW "TeaHouse" 40 1 4 := ⟨_, rfl, by decide, rfl, TW_of (i := 256) (by decide +kernel) (by decide +kernel), TW_of (i := 257) (by decide +kernel) (by decide +kernel), TW_of (i := 32) (by decide +kernel) (by decide +kernel), nw_def 1 4 (by decide +kernel)⟩
theorem im_J4_init_da8c8 : Cond.instanceMethod m_J4_init_da8c8.1 ∈ TW := TW_of (i := 259) (by decide +kernel) (by decide +kernel)
theorem lb_J4_init_da8c8 : ∀ (own : String) (idx : Nat), LkB own idx m_J4_init_da8c8 0 := fun _ _ => ⟨iw_J4, TW_of (i := 260) (by decide +kernel) (by decide +kernel), ⟨by decide +kernel, by decide +kernel⟩, by decide +kernel, by decide⟩
theorem lk_X8_42 : LkI "TeaHouse" 42 m_J4_init_da8c8 0 := ⟨TW_of (i := 258) (by decide +kernel) (by decide +kernel), im_J4_init_da8c8, rfl, rfl, lb_J4_init_da8c8 _ _⟩
theorem ff_X8_43 : FF "TeaHouse" 43 9 6 (.object "java/lang/StringBuilder") := ⟨_, rfl, by decide, by decide, TW_of (i := 295) (by decide +kernel) (by decide +kernel), rfl, by decide +kernel, rfl⟩
theorem pf_X8_47 : PF "TeaHouse" 47 9 7 .boolean := ⟨_, rfl, by decide, by decide, TW_of (i := 296) (by decide +kernel) (by decide +kernel), rfl, by decide +kernel⟩
theorem pf_X8_51 : PF "TeaHouse" 51 9 8 .int := ⟨_, rfl, by decide, by decide, TW_of (i := 297) (by decide +kernel) (by decide +kernel), rfl, by decide +kernel⟩
theorem pf_X8_55 : PF "TeaHouse" 55 9 9 .int := ⟨_, rfl, by decide, by decide, TW_of (i := 298) (by decide +kernel) (by decide +kernel), rfl, by decide +kernel⟩
theorem pf_X8_58 : PF "TeaHouse" 58 9 10 .int := ⟨_, rfl, by decide, by decide, TW_of (i := 299) (by decide +kernel) (by decide +kernel), rfl, by decide +kernel⟩
theorem pf_X8_61 : PF "TeaHouse" 61 9 11 .int := ⟨_, rfl, by decide, by decide, TW_of (i := 300) (by decide +kernel) (by decide +kernel), rfl, by decide +kernel⟩
theorem gf_X8_22 : GF "TeaHouse" 22 9 3 := ⟨_, rfl, by decide, by decide, TW_of (i := 292) (by decide +kernel) (by decide +kernel)⟩
theorem gs_X8_64 : Cond.fieldLink "TeaHouse" 64 "TeaHouse$Verb" "KETTLE" "LTeaHouse$Verb;" ∈ TW := TW_of (i := 1159) (by decide +kernel) (by decide +kernel)
theorem im_X8_change : Cond.instanceMethod m_X8_change.1 ∈ TW := TW_of (i := 1163) (by decide +kernel) (by decide +kernel)
theorem sl_X8_change : Cond.selects "TeaHouse" m_X8_change.1 m_X8_change.1 ∈ TW := TW_of (i := 15) (by decide +kernel) (by decide +kernel)
theorem lb_X8_change : ∀ (own : String) (idx : Nat), LkB own idx m_X8_change 5 := fun _ _ => ⟨iw_X8, TW_of (i := 1164) (by decide +kernel) (by decide +kernel), ⟨by decide +kernel, by decide +kernel⟩, by decide +kernel, by decide⟩
theorem lk_X8_70 : LkV "TeaHouse" 70 "TeaHouse" m_X8_change 5 := ⟨TW_of (i := 1161) (by decide +kernel) (by decide +kernel), im_X8_change, sl_X8_change, lb_X8_change _ _⟩
theorem gs_X8_74 : Cond.fieldLink "TeaHouse" 74 "TeaHouse$Verb" "FILL" "LTeaHouse$Verb;" ∈ TW := TW_of (i := 1280) (by decide +kernel) (by decide +kernel)
theorem sm_X8_halves : Cond.static m_X8_halves.1 ∈ TW := TW_of (i := 426) (by decide +kernel) (by decide +kernel)
theorem lb_X8_halves : ∀ (own : String) (idx : Nat), LkB own idx m_X8_halves 1 := fun _ _ => ⟨iw_X8, TW_of (i := 427) (by decide +kernel) (by decide +kernel), ⟨by decide +kernel, by decide +kernel⟩, by decide +kernel, by decide⟩
theorem lk_X8_77 : LkS "TeaHouse" 77 m_X8_halves 1 := ⟨TW_of (i := 425) (by decide +kernel) (by decide +kernel), sm_X8_halves, lb_X8_halves _ _⟩
theorem gs_X8_81 : Cond.fieldLink "TeaHouse" 81 "TeaHouse$Verb" "BURNER" "LTeaHouse$Verb;" ∈ TW := TW_of (i := 1291) (by decide +kernel) (by decide +kernel)
theorem gs_X8_84 : Cond.fieldLink "TeaHouse" 84 "TeaHouse$Verb" "ORDER" "LTeaHouse$Verb;" ∈ TW := TW_of (i := 1303) (by decide +kernel) (by decide +kernel)
theorem gs_X8_87 : Cond.fieldLink "TeaHouse" 87 "TeaHouse$Verb" "CANCEL" "LTeaHouse$Verb;" ∈ TW := TW_of (i := 1312) (by decide +kernel) (by decide +kernel)
theorem gs_X8_90 : Cond.fieldLink "TeaHouse" 90 "TeaHouse$Verb" "SERVE" "LTeaHouse$Verb;" ∈ TW := TW_of (i := 511) (by decide +kernel) (by decide +kernel)
theorem gs_X8_93 : Cond.fieldLink "TeaHouse" 93 "TeaHouse$Verb" "WASH" "LTeaHouse$Verb;" ∈ TW := TW_of (i := 1328) (by decide +kernel) (by decide +kernel)
theorem gs_X8_96 : Cond.fieldLink "TeaHouse" 96 "TeaHouse$Verb" "STEAM" "LTeaHouse$Verb;" ∈ TW := TW_of (i := 1337) (by decide +kernel) (by decide +kernel)
theorem sm_X8_eighths : Cond.static m_X8_eighths.1 ∈ TW := TW_of (i := 414) (by decide +kernel) (by decide +kernel)
theorem lb_X8_eighths : ∀ (own : String) (idx : Nat), LkB own idx m_X8_eighths 1 := fun _ _ => ⟨iw_X8, TW_of (i := 415) (by decide +kernel) (by decide +kernel), ⟨by decide +kernel, by decide +kernel⟩, by decide +kernel, by decide⟩
theorem lk_X8_99 : LkS "TeaHouse" 99 m_X8_eighths 1 := ⟨TW_of (i := 413) (by decide +kernel) (by decide +kernel), sm_X8_eighths, lb_X8_eighths _ _⟩
theorem gs_X8_102 : Cond.fieldLink "TeaHouse" 102 "TeaHouse$Verb" "CUP" "LTeaHouse$Verb;" ∈ TW := TW_of (i := 1346) (by decide +kernel) (by decide +kernel)
theorem gs_X8_105 : Cond.fieldLink "TeaHouse" 105 "TeaHouse$Verb" "LITRE" "LTeaHouse$Verb;" ∈ TW := TW_of (i := 1355) (by decide +kernel) (by decide +kernel)
theorem gs_X8_108 : Cond.fieldLink "TeaHouse" 108 "TeaHouse$Verb" "ATTEND" "LTeaHouse$Verb;" ∈ TW := TW_of (i := 1361) (by decide +kernel) (by decide +kernel)
theorem gs_X8_111 : Cond.fieldLink "TeaHouse" 111 "TeaHouse$Verb" "MINUTES" "LTeaHouse$Verb;" ∈ TW := TW_of (i := 1379) (by decide +kernel) (by decide +kernel)
theorem gs_X8_114 : Cond.fieldLink "TeaHouse" 114 "TeaHouse$Verb" "CLOSE" "LTeaHouse$Verb;" ∈ TW := TW_of (i := 1370) (by decide +kernel) (by decide +kernel)
theorem gf_X8_12 : GF "TeaHouse" 12 9 0 := ⟨_, rfl, by decide, by decide, TW_of (i := 289) (by decide +kernel) (by decide +kernel)⟩
theorem gf_X8_117 : GF "TeaHouse" 117 4 0 := ⟨_, rfl, by decide, by decide, TW_of (i := 174) (by decide +kernel) (by decide +kernel)⟩
theorem gf_X8_120 : GF "TeaHouse" 120 6 5 := ⟨_, rfl, by decide, by decide, TW_of (i := 93) (by decide +kernel) (by decide +kernel)⟩
theorem im_X8_requireKettle : Cond.instanceMethod m_X8_requireKettle.1 ∈ TW := TW_of (i := 336) (by decide +kernel) (by decide +kernel)
theorem sl_X8_requireKettle : Cond.selects "TeaHouse" m_X8_requireKettle.1 m_X8_requireKettle.1 ∈ TW := TW_of (i := 0) (by decide +kernel) (by decide +kernel)
theorem lb_X8_requireKettle : ∀ (own : String) (idx : Nat), LkB own idx m_X8_requireKettle 1 := fun _ _ => ⟨iw_X8, TW_of (i := 337) (by decide +kernel) (by decide +kernel), ⟨by decide +kernel, by decide +kernel⟩, by decide +kernel, by decide⟩
theorem lk_X8_123 : LkV "TeaHouse" 123 "TeaHouse" m_X8_requireKettle 1 := ⟨TW_of (i := 334) (by decide +kernel) (by decide +kernel), im_X8_requireKettle, sl_X8_requireKettle, lb_X8_requireKettle _ _⟩
theorem gf_X8_127 : GF "TeaHouse" 127 6 0 := ⟨_, rfl, by decide, by decide, TW_of (i := 80) (by decide +kernel) (by decide +kernel)⟩
theorem gf_X8_131 : GF "TeaHouse" 131 6 1 := ⟨_, rfl, by decide, by decide, TW_of (i := 83) (by decide +kernel) (by decide +kernel)⟩
theorem gf_X8_134 : GF "TeaHouse" 134 6 2 := ⟨_, rfl, by decide, by decide, TW_of (i := 85) (by decide +kernel) (by decide +kernel)⟩
theorem sm_X8_bitsOfHalves : Cond.static m_X8_bitsOfHalves.1 ∈ TW := TW_of (i := 434) (by decide +kernel) (by decide +kernel)
theorem lb_X8_bitsOfHalves : ∀ (own : String) (idx : Nat), LkB own idx m_X8_bitsOfHalves 1 := fun _ _ => ⟨iw_X8, TW_of (i := 435) (by decide +kernel) (by decide +kernel), ⟨by decide +kernel, by decide +kernel⟩, by decide +kernel, by decide⟩
theorem lk_X8_137 : LkS "TeaHouse" 137 m_X8_bitsOfHalves 1 := ⟨TW_of (i := 433) (by decide +kernel) (by decide +kernel), sm_X8_bitsOfHalves, lb_X8_bitsOfHalves _ _⟩
theorem gf_X8_141 : GF "TeaHouse" 141 6 3 := ⟨_, rfl, by decide, by decide, TW_of (i := 87) (by decide +kernel) (by decide +kernel)⟩
theorem gf_X8_144 : GF "TeaHouse" 144 6 4 := ⟨_, rfl, by decide, by decide, TW_of (i := 90) (by decide +kernel) (by decide +kernel)⟩
theorem im_X3_heatingTime : Cond.instanceMethod m_X3_heatingTime.1 ∈ TW := TW_of (i := 741) (by decide +kernel) (by decide +kernel)
theorem sl_X3_heatingTime : Cond.selects "TeaHouse$Kettles" m_X3_heatingTime.1 m_X3_heatingTime.1 ∈ TW := TW_of (i := 742) (by decide +kernel) (by decide +kernel)
theorem lb_X3_heatingTime : ∀ (own : String) (idx : Nat), LkB own idx m_X3_heatingTime 1 := fun _ _ => ⟨iw_X3, TW_of (i := 743) (by decide +kernel) (by decide +kernel), ⟨by decide +kernel, by decide +kernel⟩, by decide +kernel, by decide⟩
theorem lk_X8_148 : LkV "TeaHouse" 148 "TeaHouse$Kettles" m_X3_heatingTime 1 := ⟨TW_of (i := 740) (by decide +kernel) (by decide +kernel), im_X3_heatingTime, sl_X3_heatingTime, lb_X3_heatingTime _ _⟩
theorem sm_X8_requireFound : Cond.static m_X8_requireFound.1 ∈ TW := TW_of (i := 461) (by decide +kernel) (by decide +kernel)
theorem lb_X8_requireFound : ∀ (own : String) (idx : Nat), LkB own idx m_X8_requireFound 1 := fun _ _ => ⟨iw_X8, TW_of (i := 462) (by decide +kernel) (by decide +kernel), ⟨by decide +kernel, by decide +kernel⟩, by decide +kernel, by decide⟩
theorem lk_X8_151 : LkS "TeaHouse" 151 m_X8_requireFound 1 := ⟨TW_of (i := 460) (by decide +kernel) (by decide +kernel), sm_X8_requireFound, lb_X8_requireFound _ _⟩
theorem im_X8_heatingTimeOnCopy : Cond.instanceMethod m_X8_heatingTimeOnCopy.1 ∈ TW := TW_of (i := 751) (by decide +kernel) (by decide +kernel)
theorem sl_X8_heatingTimeOnCopy : Cond.selects "TeaHouse" m_X8_heatingTimeOnCopy.1 m_X8_heatingTimeOnCopy.1 ∈ TW := TW_of (i := 12) (by decide +kernel) (by decide +kernel)
theorem lb_X8_heatingTimeOnCopy : ∀ (own : String) (idx : Nat), LkB own idx m_X8_heatingTimeOnCopy 1 := fun _ _ => ⟨iw_X8, TW_of (i := 752) (by decide +kernel) (by decide +kernel), ⟨by decide +kernel, by decide +kernel⟩, by decide +kernel, by decide⟩
theorem lk_X8_154 : LkV "TeaHouse" 154 "TeaHouse" m_X8_heatingTimeOnCopy 1 := ⟨TW_of (i := 749) (by decide +kernel) (by decide +kernel), im_X8_heatingTimeOnCopy, sl_X8_heatingTimeOnCopy, lb_X8_heatingTimeOnCopy _ _⟩
theorem lk_X8_157 : LkV "TeaHouse" 157 "TeaHouse$Kettles" m_X3_ranked 1 := ⟨TW_of (i := 448) (by decide +kernel) (by decide +kernel), im_X3_ranked, sl_X3_ranked, lb_X3_ranked _ _⟩
theorem gf_X8_160 : GF "TeaHouse" 160 4 1 := ⟨_, rfl, by decide, by decide, TW_of (i := 176) (by decide +kernel) (by decide +kernel)⟩
theorem gf_X8_164 : GF "TeaHouse" 164 8 5 := ⟨_, rfl, by decide, by decide, TW_of (i := 127) (by decide +kernel) (by decide +kernel)⟩
theorem lk_X8_167 : LkV "TeaHouse" 167 "TeaHouse$Orders" m_X5_numberAt 1 := ⟨TW_of (i := 487) (by decide +kernel) (by decide +kernel), im_X5_numberAt, sl_X5_numberAt, lb_X5_numberAt _ _⟩
theorem lk_X8_170 : LkV "TeaHouse" 170 "TeaHouse$Orders" m_X5_find 1 := ⟨TW_of (i := 495) (by decide +kernel) (by decide +kernel), im_X5_find, sl_X5_find, lb_X5_find _ _⟩
theorem gf_X8_173 : GF "TeaHouse" 173 8 2 := ⟨_, rfl, by decide, by decide, TW_of (i := 120) (by decide +kernel) (by decide +kernel)⟩
theorem gf_X8_176 : GF "TeaHouse" 176 4 8 := ⟨_, rfl, by decide, by decide, TW_of (i := 190) (by decide +kernel) (by decide +kernel)⟩
theorem gf_X8_179 : GF "TeaHouse" 179 8 3 := ⟨_, rfl, by decide, by decide, TW_of (i := 123) (by decide +kernel) (by decide +kernel)⟩
theorem lk_X8_182 : LkV "TeaHouse" 182 "TeaHouse$Kettles" m_X3_suitable 2 := ⟨TW_of (i := 1118) (by decide +kernel) (by decide +kernel), im_X3_suitable, sl_X3_suitable, lb_X3_suitable _ _⟩
theorem im_X8_waitOnCopy : Cond.instanceMethod m_X8_waitOnCopy.1 ∈ TW := TW_of (i := 1131) (by decide +kernel) (by decide +kernel)
theorem sl_X8_waitOnCopy : Cond.selects "TeaHouse" m_X8_waitOnCopy.1 m_X8_waitOnCopy.1 ∈ TW := TW_of (i := 14) (by decide +kernel) (by decide +kernel)
theorem lb_X8_waitOnCopy : ∀ (own : String) (idx : Nat), LkB own idx m_X8_waitOnCopy 2 := fun _ _ => ⟨iw_X8, TW_of (i := 1132) (by decide +kernel) (by decide +kernel), ⟨by decide +kernel, by decide +kernel⟩, by decide +kernel, by decide⟩
theorem lk_X8_186 : LkV "TeaHouse" 186 "TeaHouse" m_X8_waitOnCopy 2 := ⟨TW_of (i := 1129) (by decide +kernel) (by decide +kernel), im_X8_waitOnCopy, sl_X8_waitOnCopy, lb_X8_waitOnCopy _ _⟩
theorem im_X1_refusal : Cond.instanceMethod m_X1_refusal.1 ∈ TW := TW_of (i := 514) (by decide +kernel) (by decide +kernel)
theorem sl_X1_refusal : Cond.selects "TeaHouse$House" m_X1_refusal.1 m_X1_refusal.1 ∈ TW := TW_of (i := 515) (by decide +kernel) (by decide +kernel)
theorem lb_X1_refusal : ∀ (own : String) (idx : Nat), LkB own idx m_X1_refusal 5 := fun _ _ => ⟨iw_X1, TW_of (i := 516) (by decide +kernel) (by decide +kernel), ⟨by decide +kernel, by decide +kernel⟩, by decide +kernel, by decide⟩
theorem lk_X8_189 : LkV "TeaHouse" 189 "TeaHouse$House" m_X1_refusal 5 := ⟨TW_of (i := 513) (by decide +kernel) (by decide +kernel), im_X1_refusal, sl_X1_refusal, lb_X1_refusal _ _⟩
theorem gs_X8_193 : Cond.fieldLink "TeaHouse" 193 "TeaHouse$Refusal" "NOTHING" "LTeaHouse$Refusal;" ∈ TW := TW_of (i := 559) (by decide +kernel) (by decide +kernel)
theorem gf_X8_199 : GF "TeaHouse" 199 4 3 := ⟨_, rfl, by decide, by decide, TW_of (i := 180) (by decide +kernel) (by decide +kernel)⟩
theorem gf_X8_202 : GF "TeaHouse" 202 4 4 := ⟨_, rfl, by decide, by decide, TW_of (i := 182) (by decide +kernel) (by decide +kernel)⟩
theorem gf_X8_205 : GF "TeaHouse" 205 4 5 := ⟨_, rfl, by decide, by decide, TW_of (i := 184) (by decide +kernel) (by decide +kernel)⟩
theorem gf_X8_207 : GF "TeaHouse" 207 4 6 := ⟨_, rfl, by decide, by decide, TW_of (i := 186) (by decide +kernel) (by decide +kernel)⟩
theorem gf_X8_210 : GF "TeaHouse" 210 4 7 := ⟨_, rfl, by decide, by decide, TW_of (i := 188) (by decide +kernel) (by decide +kernel)⟩
theorem gf_X8_216 : GF "TeaHouse" 216 4 2 := ⟨_, rfl, by decide, by decide, TW_of (i := 178) (by decide +kernel) (by decide +kernel)⟩
theorem gf_X8_220 : GF "TeaHouse" 220 7 3 := ⟨_, rfl, by decide, by decide, TW_of (i := 157) (by decide +kernel) (by decide +kernel)⟩
theorem gf_X8_225 : GF "TeaHouse" 225 7 2 := ⟨_, rfl, by decide, by decide, TW_of (i := 155) (by decide +kernel) (by decide +kernel)⟩
theorem gf_X8_233 : GF "TeaHouse" 233 7 0 := ⟨_, rfl, by decide, by decide, TW_of (i := 151) (by decide +kernel) (by decide +kernel)⟩
theorem im_X4_ranked : Cond.instanceMethod m_X4_ranked.1 ∈ TW := TW_of (i := 602) (by decide +kernel) (by decide +kernel)
theorem sl_X4_ranked : Cond.selects "TeaHouse$Ledger" m_X4_ranked.1 m_X4_ranked.1 ∈ TW := TW_of (i := 603) (by decide +kernel) (by decide +kernel)
theorem lb_X4_ranked : ∀ (own : String) (idx : Nat), LkB own idx m_X4_ranked 1 := fun _ _ => ⟨iw_X4, TW_of (i := 604) (by decide +kernel) (by decide +kernel), ⟨by decide +kernel, by decide +kernel⟩, by decide +kernel, by decide⟩
theorem lk_X8_236 : LkV "TeaHouse" 236 "TeaHouse$Ledger" m_X4_ranked 1 := ⟨TW_of (i := 601) (by decide +kernel) (by decide +kernel), im_X4_ranked, sl_X4_ranked, lb_X4_ranked _ _⟩
theorem im_X8_requireNights : Cond.instanceMethod m_X8_requireNights.1 ∈ TW := TW_of (i := 615) (by decide +kernel) (by decide +kernel)
theorem sl_X8_requireNights : Cond.selects "TeaHouse" m_X8_requireNights.1 m_X8_requireNights.1 ∈ TW := TW_of (i := 8) (by decide +kernel) (by decide +kernel)
theorem lb_X8_requireNights : ∀ (own : String) (idx : Nat), LkB own idx m_X8_requireNights 1 := fun _ _ => ⟨iw_X8, TW_of (i := 616) (by decide +kernel) (by decide +kernel), ⟨by decide +kernel, by decide +kernel⟩, by decide +kernel, by decide⟩
theorem lk_X8_237 : LkV "TeaHouse" 237 "TeaHouse" m_X8_requireNights 1 := ⟨TW_of (i := 613) (by decide +kernel) (by decide +kernel), im_X8_requireNights, sl_X8_requireNights, lb_X8_requireNights _ _⟩
theorem lk_X8_240 : LkV "TeaHouse" 240 "TeaHouse$Ledger" m_X4_greatestByAdding 1 := ⟨TW_of (i := 635) (by decide +kernel) (by decide +kernel), im_X4_greatestByAdding, sl_X4_greatestByAdding, lb_X4_greatestByAdding _ _⟩
theorem lk_X8_243 : LkV "TeaHouse" 243 "TeaHouse$Ledger" m_X4_greatestByDifferences 1 := ⟨TW_of (i := 646) (by decide +kernel) (by decide +kernel), im_X4_greatestByDifferences, sl_X4_greatestByDifferences, lb_X4_greatestByDifferences _ _⟩
theorem lk_X8_246 : LkV "TeaHouse" 246 "TeaHouse$Ledger" m_X4_totalOfNights 0 := ⟨TW_of (i := 654) (by decide +kernel) (by decide +kernel), im_X4_totalOfNights, sl_X4_totalOfNights, lb_X4_totalOfNights _ _⟩
theorem lk_X8_250 : LkV "TeaHouse" 250 "TeaHouse$Ledger" m_X4_totalOfSales 0 := ⟨TW_of (i := 662) (by decide +kernel) (by decide +kernel), im_X4_totalOfSales, sl_X4_totalOfSales, lb_X4_totalOfSales _ _⟩
theorem gf_X8_256 : GF "TeaHouse" 256 4 12 := ⟨_, rfl, by decide, by decide, TW_of (i := 195) (by decide +kernel) (by decide +kernel)⟩
theorem gf_X8_259 : GF "TeaHouse" 259 4 13 := ⟨_, rfl, by decide, by decide, TW_of (i := 197) (by decide +kernel) (by decide +kernel)⟩
theorem im_X3_totalVolume : Cond.instanceMethod m_X3_totalVolume.1 ∈ TW := TW_of (i := 704) (by decide +kernel) (by decide +kernel)
theorem sl_X3_totalVolume : Cond.selects "TeaHouse$Kettles" m_X3_totalVolume.1 m_X3_totalVolume.1 ∈ TW := TW_of (i := 705) (by decide +kernel) (by decide +kernel)
theorem lb_X3_totalVolume : ∀ (own : String) (idx : Nat), LkB own idx m_X3_totalVolume 0 := fun _ _ => ⟨iw_X3, TW_of (i := 706) (by decide +kernel) (by decide +kernel), ⟨by decide +kernel, by decide +kernel⟩, by decide +kernel, by decide⟩
theorem lk_X8_269 : LkV "TeaHouse" 269 "TeaHouse$Kettles" m_X3_totalVolume 0 := ⟨TW_of (i := 703) (by decide +kernel) (by decide +kernel), im_X3_totalVolume, sl_X3_totalVolume, lb_X3_totalVolume _ _⟩
theorem im_X4_isConsistent : Cond.instanceMethod m_X4_isConsistent.1 ∈ TW := TW_of (i := 708) (by decide +kernel) (by decide +kernel)
theorem sl_X4_isConsistent : Cond.selects "TeaHouse$Ledger" m_X4_isConsistent.1 m_X4_isConsistent.1 ∈ TW := TW_of (i := 709) (by decide +kernel) (by decide +kernel)
theorem lb_X4_isConsistent : ∀ (own : String) (idx : Nat), LkB own idx m_X4_isConsistent 0 := fun _ _ => ⟨iw_X4, TW_of (i := 710) (by decide +kernel) (by decide +kernel), ⟨by decide +kernel, by decide +kernel⟩, by decide +kernel, by decide⟩
theorem lk_X8_272 : LkV "TeaHouse" 272 "TeaHouse$Ledger" m_X4_isConsistent 0 := ⟨TW_of (i := 707) (by decide +kernel) (by decide +kernel), im_X4_isConsistent, sl_X4_isConsistent, lb_X4_isConsistent _ _⟩
theorem im_X5_isConsistent : Cond.instanceMethod m_X5_isConsistent.1 ∈ TW := TW_of (i := 716) (by decide +kernel) (by decide +kernel)
theorem sl_X5_isConsistent : Cond.selects "TeaHouse$Orders" m_X5_isConsistent.1 m_X5_isConsistent.1 ∈ TW := TW_of (i := 717) (by decide +kernel) (by decide +kernel)
theorem lb_X5_isConsistent : ∀ (own : String) (idx : Nat), LkB own idx m_X5_isConsistent 0 := fun _ _ => ⟨iw_X5, TW_of (i := 718) (by decide +kernel) (by decide +kernel), ⟨by decide +kernel, by decide +kernel⟩, by decide +kernel, by decide⟩
theorem lk_X8_276 : LkV "TeaHouse" 276 "TeaHouse$Orders" m_X5_isConsistent 0 := ⟨TW_of (i := 715) (by decide +kernel) (by decide +kernel), im_X5_isConsistent, sl_X5_isConsistent, lb_X5_isConsistent _ _⟩
theorem im_X3_isRankedOnceEach : Cond.instanceMethod m_X3_isRankedOnceEach.1 ∈ TW := TW_of (i := 722) (by decide +kernel) (by decide +kernel)
theorem sl_X3_isRankedOnceEach : Cond.selects "TeaHouse$Kettles" m_X3_isRankedOnceEach.1 m_X3_isRankedOnceEach.1 ∈ TW := TW_of (i := 723) (by decide +kernel) (by decide +kernel)
theorem lb_X3_isRankedOnceEach : ∀ (own : String) (idx : Nat), LkB own idx m_X3_isRankedOnceEach 0 := fun _ _ => ⟨iw_X3, TW_of (i := 724) (by decide +kernel) (by decide +kernel), ⟨by decide +kernel, by decide +kernel⟩, by decide +kernel, by decide⟩
theorem lk_X8_277 : LkV "TeaHouse" 277 "TeaHouse$Kettles" m_X3_isRankedOnceEach 0 := ⟨TW_of (i := 721) (by decide +kernel) (by decide +kernel), im_X3_isRankedOnceEach, sl_X3_isRankedOnceEach, lb_X3_isRankedOnceEach _ _⟩
theorem im_X8_allTemperatureBitsFit : Cond.instanceMethod m_X8_allTemperatureBitsFit.1 ∈ TW := TW_of (i := 729) (by decide +kernel) (by decide +kernel)
theorem sl_X8_allTemperatureBitsFit : Cond.selects "TeaHouse" m_X8_allTemperatureBitsFit.1 m_X8_allTemperatureBitsFit.1 ∈ TW := TW_of (i := 9) (by decide +kernel) (by decide +kernel)
theorem lb_X8_allTemperatureBitsFit : ∀ (own : String) (idx : Nat), LkB own idx m_X8_allTemperatureBitsFit 0 := fun _ _ => ⟨iw_X8, TW_of (i := 730) (by decide +kernel) (by decide +kernel), ⟨by decide +kernel, by decide +kernel⟩, by decide +kernel, by decide⟩
theorem lk_X8_280 : LkV "TeaHouse" 280 "TeaHouse" m_X8_allTemperatureBitsFit 0 := ⟨TW_of (i := 727) (by decide +kernel) (by decide +kernel), im_X8_allTemperatureBitsFit, sl_X8_allTemperatureBitsFit, lb_X8_allTemperatureBitsFit _ _⟩
theorem im_X8_allHeatingTimesAgree : Cond.instanceMethod m_X8_allHeatingTimesAgree.1 ∈ TW := TW_of (i := 738) (by decide +kernel) (by decide +kernel)
theorem sl_X8_allHeatingTimesAgree : Cond.selects "TeaHouse" m_X8_allHeatingTimesAgree.1 m_X8_allHeatingTimesAgree.1 ∈ TW := TW_of (i := 10) (by decide +kernel) (by decide +kernel)
theorem lb_X8_allHeatingTimesAgree : ∀ (own : String) (idx : Nat), LkB own idx m_X8_allHeatingTimesAgree 0 := fun _ _ => ⟨iw_X8, TW_of (i := 739) (by decide +kernel) (by decide +kernel), ⟨by decide +kernel, by decide +kernel⟩, by decide +kernel, by decide⟩
theorem lk_X8_283 : LkV "TeaHouse" 283 "TeaHouse" m_X8_allHeatingTimesAgree 0 := ⟨TW_of (i := 736) (by decide +kernel) (by decide +kernel), im_X8_allHeatingTimesAgree, sl_X8_allHeatingTimesAgree, lb_X8_allHeatingTimesAgree _ _⟩
theorem gf_X8_43 : GF "TeaHouse" 43 9 6 := ⟨_, rfl, by decide, by decide, TW_of (i := 295) (by decide +kernel) (by decide +kernel)⟩
theorem im_J4_setLength_d00df : Cond.instanceMethod m_J4_setLength_d00df.1 ∈ TW := TW_of (i := 773) (by decide +kernel) (by decide +kernel)
theorem sl_J4_setLength_d00df : Cond.selects "java/lang/StringBuilder" m_J4_setLength_d00df.1 m_J4_setLength_d00df.1 ∈ TW := TW_of (i := 774) (by decide +kernel) (by decide +kernel)
theorem lb_J4_setLength_d00df : ∀ (own : String) (idx : Nat), LkB own idx m_J4_setLength_d00df 1 := fun _ _ => ⟨iw_J4, TW_of (i := 775) (by decide +kernel) (by decide +kernel), ⟨by decide +kernel, by decide +kernel⟩, by decide +kernel, by decide⟩
theorem lk_X8_286 : LkV "TeaHouse" 286 "java/lang/StringBuilder" m_J4_setLength_d00df 1 := ⟨TW_of (i := 772) (by decide +kernel) (by decide +kernel), im_J4_setLength_d00df, sl_J4_setLength_d00df, lb_J4_setLength_d00df _ _⟩
theorem im_X3_describe : Cond.instanceMethod m_X3_describe.1 ∈ TW := TW_of (i := 1044) (by decide +kernel) (by decide +kernel)
theorem sl_X3_describe : Cond.selects "TeaHouse$Kettles" m_X3_describe.1 m_X3_describe.1 ∈ TW := TW_of (i := 1045) (by decide +kernel) (by decide +kernel)
theorem lb_X3_describe : ∀ (own : String) (idx : Nat), LkB own idx m_X3_describe 2 := fun _ _ => ⟨iw_X3, TW_of (i := 1046) (by decide +kernel) (by decide +kernel), ⟨by decide +kernel, by decide +kernel⟩, by decide +kernel, by decide⟩
theorem lk_X8_289 : LkV "TeaHouse" 289 "TeaHouse$Kettles" m_X3_describe 2 := ⟨TW_of (i := 1043) (by decide +kernel) (by decide +kernel), im_X3_describe, sl_X3_describe, lb_X3_describe _ _⟩
theorem im_J4_length_8abf5 : Cond.instanceMethod m_J4_length_8abf5.1 ∈ TW := TW_of (i := 950) (by decide +kernel) (by decide +kernel)
theorem sl_J4_length_8abf5 : Cond.selects "java/lang/StringBuilder" m_J4_length_8abf5.1 m_J4_length_8abf5.1 ∈ TW := TW_of (i := 1481) (by decide +kernel) (by decide +kernel)
theorem lb_J4_length_8abf5 : ∀ (own : String) (idx : Nat), LkB own idx m_J4_length_8abf5 0 := fun _ _ => ⟨iw_J4, TW_of (i := 951) (by decide +kernel) (by decide +kernel), ⟨by decide +kernel, by decide +kernel⟩, by decide +kernel, by decide⟩
theorem lk_X8_293 : LkV "TeaHouse" 293 "java/lang/StringBuilder" m_J4_length_8abf5 0 := ⟨TW_of (i := 1072) (by decide +kernel) (by decide +kernel), im_J4_length_8abf5, sl_J4_length_8abf5, lb_J4_length_8abf5 _ _⟩
theorem im_X5_describe : Cond.instanceMethod m_X5_describe.1 ∈ TW := TW_of (i := 1393) (by decide +kernel) (by decide +kernel)
theorem sl_X5_describe : Cond.selects "TeaHouse$Orders" m_X5_describe.1 m_X5_describe.1 ∈ TW := TW_of (i := 1394) (by decide +kernel) (by decide +kernel)
theorem lb_X5_describe : ∀ (own : String) (idx : Nat), LkB own idx m_X5_describe 2 := fun _ _ => ⟨iw_X5, TW_of (i := 1395) (by decide +kernel) (by decide +kernel), ⟨by decide +kernel, by decide +kernel⟩, by decide +kernel, by decide⟩
theorem lk_X8_296 : LkV "TeaHouse" 296 "TeaHouse$Orders" m_X5_describe 2 := ⟨TW_of (i := 1392) (by decide +kernel) (by decide +kernel), im_X5_describe, sl_X5_describe, lb_X5_describe _ _⟩
theorem im_X4_describe : Cond.instanceMethod m_X4_describe.1 ∈ TW := TW_of (i := 1078) (by decide +kernel) (by decide +kernel)
theorem sl_X4_describe : Cond.selects "TeaHouse$Ledger" m_X4_describe.1 m_X4_describe.1 ∈ TW := TW_of (i := 1079) (by decide +kernel) (by decide +kernel)
theorem lb_X4_describe : ∀ (own : String) (idx : Nat), LkB own idx m_X4_describe 1 := fun _ _ => ⟨iw_X4, TW_of (i := 1080) (by decide +kernel) (by decide +kernel), ⟨by decide +kernel, by decide +kernel⟩, by decide +kernel, by decide⟩
theorem lk_X8_297 : LkV "TeaHouse" 297 "TeaHouse$Ledger" m_X4_describe 1 := ⟨TW_of (i := 1077) (by decide +kernel) (by decide +kernel), im_X4_describe, sl_X4_describe, lb_X4_describe _ _⟩
theorem im_J4_charAt_5068e : Cond.instanceMethod m_J4_charAt_5068e.1 ∈ TW := TW_of (i := 1407) (by decide +kernel) (by decide +kernel)
theorem sl_J4_charAt_5068e : Cond.selects "java/lang/StringBuilder" m_J4_charAt_5068e.1 m_J4_charAt_5068e.1 ∈ TW := TW_of (i := 1408) (by decide +kernel) (by decide +kernel)
theorem lb_J4_charAt_5068e : ∀ (own : String) (idx : Nat), LkB own idx m_J4_charAt_5068e 1 := fun _ _ => ⟨iw_J4, TW_of (i := 1409) (by decide +kernel) (by decide +kernel), ⟨by decide +kernel, by decide +kernel⟩, by decide +kernel, by decide⟩
theorem lk_X8_302 : LkV "TeaHouse" 302 "java/lang/StringBuilder" m_J4_charAt_5068e 1 := ⟨TW_of (i := 1406) (by decide +kernel) (by decide +kernel), im_J4_charAt_5068e, sl_J4_charAt_5068e, lb_J4_charAt_5068e _ _⟩
theorem gf_X8_51 : GF "TeaHouse" 51 9 8 := ⟨_, rfl, by decide, by decide, TW_of (i := 297) (by decide +kernel) (by decide +kernel)⟩
theorem sm_X8_requireAllowed : Cond.static m_X8_requireAllowed.1 ∈ TW := TW_of (i := 1166) (by decide +kernel) (by decide +kernel)
theorem lb_X8_requireAllowed : ∀ (own : String) (idx : Nat), LkB own idx m_X8_requireAllowed 1 := fun _ _ => ⟨iw_X8, TW_of (i := 1167) (by decide +kernel) (by decide +kernel), ⟨by decide +kernel, by decide +kernel⟩, by decide +kernel, by decide⟩
theorem lk_X8_349 : LkS "TeaHouse" 349 m_X8_requireAllowed 1 := ⟨TW_of (i := 1165) (by decide +kernel) (by decide +kernel), sm_X8_requireAllowed, lb_X8_requireAllowed _ _⟩
theorem im_X8_remember : Cond.instanceMethod m_X8_remember.1 ∈ TW := TW_of (i := 1192) (by decide +kernel) (by decide +kernel)
theorem sl_X8_remember : Cond.selects "TeaHouse" m_X8_remember.1 m_X8_remember.1 ∈ TW := TW_of (i := 16) (by decide +kernel) (by decide +kernel)
theorem lb_X8_remember : ∀ (own : String) (idx : Nat), LkB own idx m_X8_remember 0 := fun _ _ => ⟨iw_X8, TW_of (i := 1193) (by decide +kernel) (by decide +kernel), ⟨by decide +kernel, by decide +kernel⟩, by decide +kernel, by decide⟩
theorem lk_X8_335 : LkV "TeaHouse" 335 "TeaHouse" m_X8_remember 0 := ⟨TW_of (i := 1190) (by decide +kernel) (by decide +kernel), im_X8_remember, sl_X8_remember, lb_X8_remember _ _⟩
theorem im_X1_perform : Cond.instanceMethod m_X1_perform.1 ∈ TW := TW_of (i := 1213) (by decide +kernel) (by decide +kernel)
theorem sl_X1_perform : Cond.selects "TeaHouse$House" m_X1_perform.1 m_X1_perform.1 ∈ TW := TW_of (i := 1214) (by decide +kernel) (by decide +kernel)
theorem lb_X1_perform : ∀ (own : String) (idx : Nat), LkB own idx m_X1_perform 5 := fun _ _ => ⟨iw_X1, TW_of (i := 1215) (by decide +kernel) (by decide +kernel), ⟨by decide +kernel, by decide +kernel⟩, by decide +kernel, by decide⟩
theorem lk_X8_353 : LkV "TeaHouse" 353 "TeaHouse$House" m_X1_perform 5 := ⟨TW_of (i := 1212) (by decide +kernel) (by decide +kernel), im_X1_perform, sl_X1_perform, lb_X1_perform _ _⟩
theorem gf_X8_55 : GF "TeaHouse" 55 9 9 := ⟨_, rfl, by decide, by decide, TW_of (i := 298) (by decide +kernel) (by decide +kernel)⟩
theorem im_X1_copyFrom : Cond.instanceMethod m_X1_copyFrom.1 ∈ TW := TW_of (i := 1195) (by decide +kernel) (by decide +kernel)
theorem sl_X1_copyFrom : Cond.selects "TeaHouse$House" m_X1_copyFrom.1 m_X1_copyFrom.1 ∈ TW := TW_of (i := 1196) (by decide +kernel) (by decide +kernel)
theorem lb_X1_copyFrom : ∀ (own : String) (idx : Nat), LkB own idx m_X1_copyFrom 1 := fun _ _ => ⟨iw_X1, TW_of (i := 1197) (by decide +kernel) (by decide +kernel), ⟨by decide +kernel, by decide +kernel⟩, by decide +kernel, by decide⟩
theorem lk_X8_338 : LkV "TeaHouse" 338 "TeaHouse$House" m_X1_copyFrom 1 := ⟨TW_of (i := 1194) (by decide +kernel) (by decide +kernel), im_X1_copyFrom, sl_X1_copyFrom, lb_X1_copyFrom _ _⟩
theorem mm_X8_356 : Cond.methodLink "TeaHouse" 356 Lib.Math.min.name ∈ TW := TW_of (i := 1211) (by decide +kernel) (by decide +kernel)
theorem gf_X8_29 : GF "TeaHouse" 29 9 4 := ⟨_, rfl, by decide, by decide, TW_of (i := 293) (by decide +kernel) (by decide +kernel)⟩
theorem lk_X8_371 : LkV "TeaHouse" 371 "TeaHouse$Kettles" m_X3_copyFrom 1 := ⟨TW_of (i := 753) (by decide +kernel) (by decide +kernel), im_X3_copyFrom, sl_X3_copyFrom, lb_X3_copyFrom _ _⟩
theorem lk_X8_374 : LkV "TeaHouse" 374 "TeaHouse$Kettles" m_X3_passMinute 1 := ⟨TW_of (i := 757) (by decide +kernel) (by decide +kernel), im_X3_passMinute, sl_X3_passMinute, lb_X3_passMinute _ _⟩
theorem sm_X8_floatOfBits : Cond.static m_X8_floatOfBits.1 ∈ TW := TW_of (i := 732) (by decide +kernel) (by decide +kernel)
theorem lb_X8_floatOfBits : ∀ (own : String) (idx : Nat), LkB own idx m_X8_floatOfBits 1 := fun _ _ => ⟨iw_X8, TW_of (i := 733) (by decide +kernel) (by decide +kernel), ⟨by decide +kernel, by decide +kernel⟩, by decide +kernel, by decide⟩
theorem lk_X8_377 : LkS "TeaHouse" 377 m_X8_floatOfBits 1 := ⟨TW_of (i := 731) (by decide +kernel) (by decide +kernel), sm_X8_floatOfBits, lb_X8_floatOfBits _ _⟩
theorem gs_X8_380 : Cond.fieldLink "TeaHouse" 380 "TeaHouse$Refusal" "NO_SUCH_KETTLE" "LTeaHouse$Refusal;" ∈ TW := TW_of (i := 1168) (by decide +kernel) (by decide +kernel)
theorem gs_X8_385 : Cond.fieldLink "TeaHouse" 385 "TeaHouse$Refusal" "OUT_OF_RANGE" "LTeaHouse$Refusal;" ∈ TW := TW_of (i := 1169) (by decide +kernel) (by decide +kernel)
theorem gs_X8_390 : Cond.fieldLink "TeaHouse" 390 "TeaHouse$Refusal" "NOT_NOW" "LTeaHouse$Refusal;" ∈ TW := TW_of (i := 1171) (by decide +kernel) (by decide +kernel)
theorem gs_X8_395 : Cond.fieldLink "TeaHouse" 395 "TeaHouse$Refusal" "NO_SUCH_ORDER" "LTeaHouse$Refusal;" ∈ TW := TW_of (i := 1188) (by decide +kernel) (by decide +kernel)
theorem lk_X8_403 : LkV "TeaHouse" 403 "TeaHouse$Kettles" m_X3_has 1 := ⟨TW_of (i := 338) (by decide +kernel) (by decide +kernel), im_X3_has, sl_X3_has, lb_X3_has _ _⟩
theorem lk_X8_407 : LkS "TeaHouse" 407 m_X8_isWithin 3 := ⟨TW_of (i := 617) (by decide +kernel) (by decide +kernel), sm_X8_isWithin, lb_X8_isWithin _ _⟩
theorem kc_X8_417 : Cond.constantFloat "TeaHouse" 417 1040187392 ∈ TW := TW_of (i := 416) (by decide +kernel) (by decide +kernel)
theorem kc_X8_418 : Cond.constantFloat "TeaHouse" 418 1056964608 ∈ TW := TW_of (i := 428) (by decide +kernel) (by decide +kernel)
theorem kc_X8_419 : Cond.constant "TeaHouse" 419 8388607 ∈ TW := TW_of (i := 734) (by decide +kernel) (by decide +kernel)
theorem kc_X8_420 : Cond.constant "TeaHouse" 420 8388608 ∈ TW := TW_of (i := 735) (by decide +kernel) (by decide +kernel)
theorem oi_J5_3 : Cond.methodLink "java/lang/AbstractStringBuilder" 3 Lib.objectInit ∈ TW := TW_of (i := 264) (by decide +kernel) (by decide +kernel)
theorem gs_J5_18 : Cond.fieldLink "java/lang/AbstractStringBuilder" 18 "java/lang/String" "COMPACT_STRINGS" "Z" ∈ TW := TW_of (i := 265) (by decide +kernel) (by decide +kernel)
theorem pf_J5_15 : PF "java/lang/AbstractStringBuilder" 15 1 0 (.array .byte) := ⟨_, rfl, by decide, by decide, TW_of (i := 274) (by decide +kernel) (by decide +kernel), rfl, by decide +kernel⟩
theorem pf_J5_22 : PF "java/lang/AbstractStringBuilder" 22 1 1 .byte := ⟨_, rfl, by decide, by decide, TW_of (i := 275) (by decide +kernel) (by decide +kernel), rfl, by decide +kernel⟩
theorem sm_J2_newBytesFor_77867 : Cond.static m_J2_newBytesFor_77867.1 ∈ TW := TW_of (i := 268) (by decide +kernel) (by decide +kernel)
theorem iw_J2 : Cond.initialized "java/lang/StringUTF16" ∈ TW := TW_of (i := 34) (by decide +kernel) (by decide +kernel)
theorem lb_J2_newBytesFor_77867 : ∀ (own : String) (idx : Nat), LkB own idx m_J2_newBytesFor_77867 1 := fun _ _ => ⟨iw_J2, TW_of (i := 269) (by decide +kernel) (by decide +kernel), ⟨by decide +kernel, by decide +kernel⟩, by decide +kernel, by decide⟩
theorem lk_J5_26 : LkS "java/lang/AbstractStringBuilder" 26 m_J2_newBytesFor_77867 1 := ⟨TW_of (i := 267) (by decide +kernel) (by decide +kernel), sm_J2_newBytesFor_77867, lb_J2_newBytesFor_77867 _ _⟩
theorem gf_J5_79 : GF "java/lang/AbstractStringBuilder" 79 1 3 := ⟨_, rfl, by decide, by decide, TW_of (i := 278) (by decide +kernel) (by decide +kernel)⟩
theorem gf_J5_15 : GF "java/lang/AbstractStringBuilder" 15 1 0 := ⟨_, rfl, by decide, by decide, TW_of (i := 274) (by decide +kernel) (by decide +kernel)⟩
theorem gf_J5_22 : GF "java/lang/AbstractStringBuilder" 22 1 1 := ⟨_, rfl, by decide, by decide, TW_of (i := 275) (by decide +kernel) (by decide +kernel)⟩
theorem sl_J5_newCapacity_0f7a4 : Cond.selects "java/lang/StringBuilder" m_J5_newCapacity_0f7a4.1 m_J5_newCapacity_0f7a4.1 ∈ TW := TW_of2 (i := 1) (by decide +kernel) (by decide +kernel)
theorem im_J5_newCapacity_0f7a4 : Cond.instanceMethod m_J5_newCapacity_0f7a4.1 ∈ TW := TW_of (i := 804) (by decide +kernel) (by decide +kernel)
theorem iw_J5 : Cond.initialized "java/lang/AbstractStringBuilder" ∈ TW := TW_of (i := 31) (by decide +kernel) (by decide +kernel)
theorem lb_J5_newCapacity_0f7a4 : ∀ (own : String) (idx : Nat), LkB own idx m_J5_newCapacity_0f7a4 1 := fun _ _ => ⟨iw_J5, TW_of (i := 805) (by decide +kernel) (by decide +kernel), ⟨by decide +kernel, by decide +kernel⟩, by decide +kernel, by decide⟩
theorem lk_J5_104 : LkU "java/lang/AbstractStringBuilder" 104 "java/lang/StringBuilder" "java/lang/AbstractStringBuilder" ⟨"java/lang/AbstractStringBuilder", "newCapacity", "(I)I"⟩ m_J5_newCapacity_0f7a4 1 := ⟨TW_of (i := 802) (by decide +kernel) (by decide +kernel), TW_of (i := 1475) (by decide +kernel) (by decide +kernel), sl_J5_newCapacity_0f7a4, im_J5_newCapacity_0f7a4, rfl, lb_J5_newCapacity_0f7a4 _ _⟩
theorem sm_J7_copyOf_9075b : Cond.static m_J7_copyOf_9075b.1 ∈ TW := TW_of (i := 816) (by decide +kernel) (by decide +kernel)
theorem iw_J7 : Cond.initialized "java/util/Arrays" ∈ TW := TW_of (i := 52) (by decide +kernel) (by decide +kernel)
theorem lb_J7_copyOf_9075b : ∀ (own : String) (idx : Nat), LkB own idx m_J7_copyOf_9075b 2 := fun _ _ => ⟨iw_J7, TW_of (i := 817) (by decide +kernel) (by decide +kernel), ⟨by decide +kernel, by decide +kernel⟩, by decide +kernel, by decide⟩
theorem lk_J5_108 : LkS "java/lang/AbstractStringBuilder" 108 m_J7_copyOf_9075b 2 := ⟨TW_of (i := 815) (by decide +kernel) (by decide +kernel), sm_J7_copyOf_9075b, lb_J7_copyOf_9075b _ _⟩
theorem sm_J8_newLength_cabcc : Cond.static m_J8_newLength_cabcc.1 ∈ TW := TW_of (i := 807) (by decide +kernel) (by decide +kernel)
theorem iw_J8 : Cond.initialized "jdk/internal/util/ArraysSupport" ∈ TW := TW_of (i := 51) (by decide +kernel) (by decide +kernel)
theorem lb_J8_newLength_cabcc : ∀ (own : String) (idx : Nat), LkB own idx m_J8_newLength_cabcc 3 := fun _ _ => ⟨iw_J8, TW_of (i := 808) (by decide +kernel) (by decide +kernel), ⟨by decide +kernel, by decide +kernel⟩, by decide +kernel, by decide⟩
theorem lk_J5_114 : LkS "java/lang/AbstractStringBuilder" 114 m_J8_newLength_cabcc 3 := ⟨TW_of (i := 806) (by decide +kernel) (by decide +kernel), sm_J8_newLength_cabcc, lb_J8_newLength_cabcc _ _⟩
theorem kc_J5_39 : Cond.constant "java/lang/AbstractStringBuilder" 39 2147483647 ∈ TW := TW_of (i := 814) (by decide +kernel) (by decide +kernel)
theorem im_J5_isLatin1_aae02 : Cond.instanceMethod m_J5_isLatin1_aae02.1 ∈ TW := TW_of (i := 830) (by decide +kernel) (by decide +kernel)
theorem lb_J5_isLatin1_aae02 : ∀ (own : String) (idx : Nat), LkB own idx m_J5_isLatin1_aae02 0 := fun _ _ => ⟨iw_J5, TW_of (i := 833) (by decide +kernel) (by decide +kernel), ⟨by decide +kernel, by decide +kernel⟩, by decide +kernel, by decide⟩
theorem lk_J5_83 : LkU "java/lang/AbstractStringBuilder" 83 "java/lang/StringBuilder" "java/lang/AbstractStringBuilder" ⟨"java/lang/AbstractStringBuilder", "isLatin1", "()Z"⟩ m_J5_isLatin1_aae02 0 := ⟨TW_of (i := 829) (by decide +kernel) (by decide +kernel), TW_of (i := 831) (by decide +kernel) (by decide +kernel), TW_of (i := 832) (by decide +kernel) (by decide +kernel), im_J5_isLatin1_aae02, rfl, lb_J5_isLatin1_aae02 _ _⟩
theorem sm_J1_inflate_0e8fd : Cond.static m_J1_inflate_0e8fd.1 ∈ TW := TW_of (i := 883) (by decide +kernel) (by decide +kernel)
theorem iw_J1 : Cond.initialized "java/lang/StringLatin1" ∈ TW := TW_of (i := 55) (by decide +kernel) (by decide +kernel)
theorem lb_J1_inflate_0e8fd : ∀ (own : String) (idx : Nat), LkB own idx m_J1_inflate_0e8fd 5 := fun _ _ => ⟨iw_J1, TW_of (i := 884) (by decide +kernel) (by decide +kernel), ⟨by decide +kernel, by decide +kernel⟩, by decide +kernel, by decide⟩
theorem lk_J5_125 : LkS "java/lang/AbstractStringBuilder" 125 m_J1_inflate_0e8fd 5 := ⟨TW_of (i := 882) (by decide +kernel) (by decide +kernel), sm_J1_inflate_0e8fd, lb_J1_inflate_0e8fd _ _⟩
theorem im_Jx7c733_init_d00df : Cond.instanceMethod m_Jx7c733_init_d00df.1 ∈ TW := TW_of (i := 782) (by decide +kernel) (by decide +kernel)
theorem iw_Jx7c733 : Cond.initialized "java/lang/StringIndexOutOfBoundsException" ∈ TW := TW_of (i := 50) (by decide +kernel) (by decide +kernel)
theorem lb_Jx7c733_init_d00df : ∀ (own : String) (idx : Nat), LkB own idx m_Jx7c733_init_d00df 1 := fun _ _ => ⟨iw_Jx7c733, TW_of (i := 783) (by decide +kernel) (by decide +kernel), ⟨by decide +kernel, by decide +kernel⟩, by decide +kernel, by decide⟩
theorem lk_J5_131 : LkI "java/lang/AbstractStringBuilder" 131 m_Jx7c733_init_d00df 1 := ⟨TW_of (i := 781) (by decide +kernel) (by decide +kernel), im_Jx7c733_init_d00df, rfl, rfl, lb_Jx7c733_init_d00df _ _⟩
theorem sl_J5_ensureCapacityInternal_d00df : Cond.selects "java/lang/StringBuilder" m_J5_ensureCapacityInternal_d00df.1 m_J5_ensureCapacityInternal_d00df.1 ∈ TW := TW_of2 (i := 0) (by decide +kernel) (by decide +kernel)
theorem im_J5_ensureCapacityInternal_d00df : Cond.instanceMethod m_J5_ensureCapacityInternal_d00df.1 ∈ TW := TW_of (i := 800) (by decide +kernel) (by decide +kernel)
theorem lb_J5_ensureCapacityInternal_d00df : ∀ (own : String) (idx : Nat), LkB own idx m_J5_ensureCapacityInternal_d00df 1 := fun _ _ => ⟨iw_J5, TW_of (i := 801) (by decide +kernel) (by decide +kernel), ⟨by decide +kernel, by decide +kernel⟩, by decide +kernel, by decide⟩
theorem lk_J5_100 : LkU "java/lang/AbstractStringBuilder" 100 "java/lang/StringBuilder" "java/lang/AbstractStringBuilder" ⟨"java/lang/AbstractStringBuilder", "ensureCapacityInternal", "(I)V"⟩ m_J5_ensureCapacityInternal_d00df 1 := ⟨TW_of (i := 798) (by decide +kernel) (by decide +kernel), TW_of (i := 1474) (by decide +kernel) (by decide +kernel), sl_J5_ensureCapacityInternal_d00df, im_J5_ensureCapacityInternal_d00df, rfl, lb_J5_ensureCapacityInternal_d00df _ _⟩
theorem sm_J1_fillNull_b72d1 : Cond.static m_J1_fillNull_b72d1.1 ∈ TW := TW_of (i := 1005) (by decide +kernel) (by decide +kernel)
theorem lb_J1_fillNull_b72d1 : ∀ (own : String) (idx : Nat), LkB own idx m_J1_fillNull_b72d1 3 := fun _ _ => ⟨iw_J1, TW_of (i := 1006) (by decide +kernel) (by decide +kernel), ⟨by decide +kernel, by decide +kernel⟩, by decide +kernel, by decide⟩
theorem lk_J5_133 : LkS "java/lang/AbstractStringBuilder" 133 m_J1_fillNull_b72d1 3 := ⟨TW_of (i := 1004) (by decide +kernel) (by decide +kernel), sm_J1_fillNull_b72d1, lb_J1_fillNull_b72d1 _ _⟩
theorem sm_J2_fillNull_b72d1 : Cond.static m_J2_fillNull_b72d1.1 ∈ TW := TW_of (i := 1040) (by decide +kernel) (by decide +kernel)
theorem lb_J2_fillNull_b72d1 : ∀ (own : String) (idx : Nat), LkB own idx m_J2_fillNull_b72d1 3 := fun _ _ => ⟨iw_J2, TW_of (i := 1041) (by decide +kernel) (by decide +kernel), ⟨by decide +kernel, by decide +kernel⟩, by decide +kernel, by decide⟩
theorem lk_J5_137 : LkS "java/lang/AbstractStringBuilder" 137 m_J2_fillNull_b72d1 3 := ⟨TW_of (i := 1039) (by decide +kernel) (by decide +kernel), sm_J2_fillNull_b72d1, lb_J2_fillNull_b72d1 _ _⟩
theorem pf_J5_73 : PF "java/lang/AbstractStringBuilder" 73 1 2 .boolean := ⟨_, rfl, by decide, by decide, TW_of (i := 276) (by decide +kernel) (by decide +kernel), rfl, by decide +kernel⟩
theorem pf_J5_79 : PF "java/lang/AbstractStringBuilder" 79 1 3 .int := ⟨_, rfl, by decide, by decide, TW_of (i := 278) (by decide +kernel) (by decide +kernel), rfl, by decide +kernel⟩
theorem mm_J5_138 : Cond.methodLink "java/lang/AbstractStringBuilder" 138 Lib.Math.min.name ∈ TW := TW_of (i := 1413) (by decide +kernel) (by decide +kernel)
theorem sm_J0_checkIndex_df160 : Cond.static m_J0_checkIndex_df160.1 ∈ TW := TW_of (i := 1064) (by decide +kernel) (by decide +kernel)
theorem iw_J0 : Cond.initialized "java/lang/String" ∈ TW := TW_of (i := 33) (by decide +kernel) (by decide +kernel)
theorem lb_J0_checkIndex_df160 : ∀ (own : String) (idx : Nat), LkB own idx m_J0_checkIndex_df160 2 := fun _ _ => ⟨iw_J0, TW_of (i := 1065) (by decide +kernel) (by decide +kernel), ⟨by decide +kernel, by decide +kernel⟩, by decide +kernel, by decide⟩
theorem lk_J5_144 : LkS "java/lang/AbstractStringBuilder" 144 m_J0_checkIndex_df160 2 := ⟨TW_of (i := 1414) (by decide +kernel) (by decide +kernel), sm_J0_checkIndex_df160, lb_J0_checkIndex_df160 _ _⟩
theorem sm_J2_getChar_3b067 : Cond.static m_J2_getChar_3b067.1 ∈ TW := TW_of (i := 979) (by decide +kernel) (by decide +kernel)
theorem lb_J2_getChar_3b067 : ∀ (own : String) (idx : Nat), LkB own idx m_J2_getChar_3b067 2 := fun _ _ => ⟨iw_J2, TW_of (i := 980) (by decide +kernel) (by decide +kernel), ⟨by decide +kernel, by decide +kernel⟩, by decide +kernel, by decide⟩
theorem lk_J5_148 : LkS "java/lang/AbstractStringBuilder" 148 m_J2_getChar_3b067 2 := ⟨TW_of (i := 1415) (by decide +kernel) (by decide +kernel), sm_J2_getChar_3b067, lb_J2_getChar_3b067 _ _⟩
theorem sl_J5_appendNull_278bc : Cond.selects "java/lang/StringBuilder" m_J5_appendNull_278bc.1 m_J5_appendNull_278bc.1 ∈ TW := TW_of2 (i := 5) (by decide +kernel) (by decide +kernel)
theorem im_J5_appendNull_278bc : Cond.instanceMethod m_J5_appendNull_278bc.1 ∈ TW := TW_of (i := 796) (by decide +kernel) (by decide +kernel)
theorem lb_J5_appendNull_278bc : ∀ (own : String) (idx : Nat), LkB own idx m_J5_appendNull_278bc 0 := fun _ _ => ⟨iw_J5, TW_of (i := 797) (by decide +kernel) (by decide +kernel), ⟨by decide +kernel, by decide +kernel⟩, by decide +kernel, by decide⟩
theorem lk_J5_204 : LkU "java/lang/AbstractStringBuilder" 204 "java/lang/StringBuilder" "java/lang/AbstractStringBuilder" ⟨"java/lang/AbstractStringBuilder", "appendNull", "()Ljava/lang/AbstractStringBuilder;"⟩ m_J5_appendNull_278bc 0 := ⟨TW_of (i := 794) (by decide +kernel) (by decide +kernel), TW_of (i := 1473) (by decide +kernel) (by decide +kernel), sl_J5_appendNull_278bc, im_J5_appendNull_278bc, rfl, lb_J5_appendNull_278bc _ _⟩
theorem im_J0_length_8abf5 : Cond.instanceMethod m_J0_length_8abf5.1 ∈ TW := TW_of (i := 861) (by decide +kernel) (by decide +kernel)
theorem sl_J0_length_8abf5 : Cond.selects "java/lang/String" m_J0_length_8abf5.1 m_J0_length_8abf5.1 ∈ TW := TW_of (i := 862) (by decide +kernel) (by decide +kernel)
theorem lb_J0_length_8abf5 : ∀ (own : String) (idx : Nat), LkB own idx m_J0_length_8abf5 0 := fun _ _ => ⟨iw_J0, TW_of (i := 863) (by decide +kernel) (by decide +kernel), ⟨by decide +kernel, by decide +kernel⟩, by decide +kernel, by decide⟩
theorem lk_J5_32 : LkV "java/lang/AbstractStringBuilder" 32 "java/lang/String" m_J0_length_8abf5 0 := ⟨TW_of (i := 860) (by decide +kernel) (by decide +kernel), im_J0_length_8abf5, sl_J0_length_8abf5, lb_J0_length_8abf5 _ _⟩
theorem sl_J5_putStringAt_47b60 : Cond.selects "java/lang/StringBuilder" m_J5_putStringAt_47b60.1 m_J5_putStringAt_47b60.1 ∈ TW := TW_of2 (i := 2) (by decide +kernel) (by decide +kernel)
theorem im_J5_putStringAt_47b60 : Cond.instanceMethod m_J5_putStringAt_47b60.1 ∈ TW := TW_of (i := 871) (by decide +kernel) (by decide +kernel)
theorem lb_J5_putStringAt_47b60 : ∀ (own : String) (idx : Nat), LkB own idx m_J5_putStringAt_47b60 2 := fun _ _ => ⟨iw_J5, TW_of (i := 872) (by decide +kernel) (by decide +kernel), ⟨by decide +kernel, by decide +kernel⟩, by decide +kernel, by decide⟩
theorem lk_J5_208 : LkU "java/lang/AbstractStringBuilder" 208 "java/lang/StringBuilder" "java/lang/AbstractStringBuilder" ⟨"java/lang/AbstractStringBuilder", "putStringAt", "(ILjava/lang/String;)V"⟩ m_J5_putStringAt_47b60 2 := ⟨TW_of (i := 869) (by decide +kernel) (by decide +kernel), TW_of (i := 1476) (by decide +kernel) (by decide +kernel), sl_J5_putStringAt_47b60, im_J5_putStringAt_47b60, rfl, lb_J5_putStringAt_47b60 _ _⟩
theorem sm_J2_putCharsAt_cd4e5 : Cond.static m_J2_putCharsAt_cd4e5.1 ∈ TW := TW_of (i := 835) (by decide +kernel) (by decide +kernel)
theorem lb_J2_putCharsAt_cd4e5 : ∀ (own : String) (idx : Nat), LkB own idx m_J2_putCharsAt_cd4e5 6 := fun _ _ => ⟨iw_J2, TW_of (i := 836) (by decide +kernel) (by decide +kernel), ⟨by decide +kernel, by decide +kernel⟩, by decide +kernel, by decide⟩
theorem lk_J5_226 : LkS "java/lang/AbstractStringBuilder" 226 m_J2_putCharsAt_cd4e5 6 := ⟨TW_of (i := 834) (by decide +kernel) (by decide +kernel), sm_J2_putCharsAt_cd4e5, lb_J2_putCharsAt_cd4e5 _ _⟩
theorem sm_J1_canEncode_fc78d : Cond.static m_J1_canEncode_fc78d.1 ∈ TW := TW_of (i := 1055) (by decide +kernel) (by decide +kernel)
theorem lb_J1_canEncode_fc78d : ∀ (own : String) (idx : Nat), LkB own idx m_J1_canEncode_fc78d 1 := fun _ _ => ⟨iw_J1, TW_of (i := 1056) (by decide +kernel) (by decide +kernel), ⟨by decide +kernel, by decide +kernel⟩, by decide +kernel, by decide⟩
theorem lk_J5_191 : LkS "java/lang/AbstractStringBuilder" 191 m_J1_canEncode_fc78d 1 := ⟨TW_of (i := 1054) (by decide +kernel) (by decide +kernel), sm_J1_canEncode_fc78d, lb_J1_canEncode_fc78d _ _⟩
theorem sl_J5_inflate_da8c8 : Cond.selects "java/lang/StringBuilder" m_J5_inflate_da8c8.1 m_J5_inflate_da8c8.1 ∈ TW := TW_of2 (i := 4) (by decide +kernel) (by decide +kernel)
theorem im_J5_inflate_da8c8 : Cond.instanceMethod m_J5_inflate_da8c8.1 ∈ TW := TW_of (i := 880) (by decide +kernel) (by decide +kernel)
theorem lb_J5_inflate_da8c8 : ∀ (own : String) (idx : Nat), LkB own idx m_J5_inflate_da8c8 0 := fun _ _ => ⟨iw_J5, TW_of (i := 881) (by decide +kernel) (by decide +kernel), ⟨by decide +kernel, by decide +kernel⟩, by decide +kernel, by decide⟩
theorem lk_J5_195 : LkU "java/lang/AbstractStringBuilder" 195 "java/lang/StringBuilder" "java/lang/AbstractStringBuilder" ⟨"java/lang/AbstractStringBuilder", "inflate", "()V"⟩ m_J5_inflate_da8c8 0 := ⟨TW_of (i := 878) (by decide +kernel) (by decide +kernel), TW_of (i := 1478) (by decide +kernel) (by decide +kernel), sl_J5_inflate_da8c8, im_J5_inflate_da8c8, rfl, lb_J5_inflate_da8c8 _ _⟩
theorem sm_J2_putCharSB_b72d1 : Cond.static m_J2_putCharSB_b72d1.1 ∈ TW := TW_of (i := 1058) (by decide +kernel) (by decide +kernel)
theorem lb_J2_putCharSB_b72d1 : ∀ (own : String) (idx : Nat), LkB own idx m_J2_putCharSB_b72d1 3 := fun _ _ => ⟨iw_J2, TW_of (i := 1059) (by decide +kernel) (by decide +kernel), ⟨by decide +kernel, by decide +kernel⟩, by decide +kernel, by decide⟩
theorem lk_J5_197 : LkS "java/lang/AbstractStringBuilder" 197 m_J2_putCharSB_b72d1 3 := ⟨TW_of (i := 1057) (by decide +kernel) (by decide +kernel), sm_J2_putCharSB_b72d1, lb_J2_putCharSB_b72d1 _ _⟩
theorem sm_J6_stringSize_0f7a4 : Cond.static m_J6_stringSize_0f7a4.1 ∈ TW := TW_of (i := 911) (by decide +kernel) (by decide +kernel)
theorem iw_J6 : Cond.initialized "java/lang/Integer" ∈ TW := TW_of (i := 56) (by decide +kernel) (by decide +kernel)
theorem lb_J6_stringSize_0f7a4 : ∀ (own : String) (idx : Nat), LkB own idx m_J6_stringSize_0f7a4 1 := fun _ _ => ⟨iw_J6, TW_of (i := 912) (by decide +kernel) (by decide +kernel), ⟨by decide +kernel, by decide +kernel⟩, by decide +kernel, by decide⟩
theorem lk_J5_245 : LkS "java/lang/AbstractStringBuilder" 245 m_J6_stringSize_0f7a4 1 := ⟨TW_of (i := 910) (by decide +kernel) (by decide +kernel), sm_J6_stringSize_0f7a4, lb_J6_stringSize_0f7a4 _ _⟩
theorem sm_J6_getChars_ba4f3 : Cond.static m_J6_getChars_ba4f3.1 ∈ TW := TW_of (i := 914) (by decide +kernel) (by decide +kernel)
theorem lb_J6_getChars_ba4f3 : ∀ (own : String) (idx : Nat), LkB own idx m_J6_getChars_ba4f3 3 := fun _ _ => ⟨iw_J6, TW_of (i := 915) (by decide +kernel) (by decide +kernel), ⟨by decide +kernel, by decide +kernel⟩, by decide +kernel, by decide⟩
theorem lk_J5_248 : LkS "java/lang/AbstractStringBuilder" 248 m_J6_getChars_ba4f3 3 := ⟨TW_of (i := 913) (by decide +kernel) (by decide +kernel), sm_J6_getChars_ba4f3, lb_J6_getChars_ba4f3 _ _⟩
theorem sm_J2_getChars_46870 : Cond.static m_J2_getChars_46870.1 ∈ TW := TW_of (i := 921) (by decide +kernel) (by decide +kernel)
theorem lb_J2_getChars_46870 : ∀ (own : String) (idx : Nat), LkB own idx m_J2_getChars_46870 4 := fun _ _ => ⟨iw_J2, TW_of (i := 922) (by decide +kernel) (by decide +kernel), ⟨by decide +kernel, by decide +kernel⟩, by decide +kernel, by decide⟩
theorem lk_J5_251 : LkS "java/lang/AbstractStringBuilder" 251 m_J2_getChars_46870 4 := ⟨TW_of (i := 920) (by decide +kernel) (by decide +kernel), sm_J2_getChars_46870, lb_J2_getChars_46870 _ _⟩
theorem im_J0_coder_7d493 : Cond.instanceMethod m_J0_coder_7d493.1 ∈ TW := TW_of (i := 865) (by decide +kernel) (by decide +kernel)
theorem sl_J0_coder_7d493 : Cond.selects "java/lang/String" m_J0_coder_7d493.1 m_J0_coder_7d493.1 ∈ TW := TW_of (i := 866) (by decide +kernel) (by decide +kernel)
theorem lb_J0_coder_7d493 : ∀ (own : String) (idx : Nat), LkB own idx m_J0_coder_7d493 0 := fun _ _ => ⟨iw_J0, TW_of (i := 867) (by decide +kernel) (by decide +kernel), ⟨by decide +kernel, by decide +kernel⟩, by decide +kernel, by decide⟩
theorem lk_J5_40 : LkV "java/lang/AbstractStringBuilder" 40 "java/lang/String" m_J0_coder_7d493 0 := ⟨TW_of (i := 877) (by decide +kernel) (by decide +kernel), im_J0_coder_7d493, sl_J0_coder_7d493, lb_J0_coder_7d493 _ _⟩
theorem sl_J5_inflateIfNeededFor_a7421 : Cond.selects "java/lang/StringBuilder" m_J5_inflateIfNeededFor_a7421.1 m_J5_inflateIfNeededFor_a7421.1 ∈ TW := TW_of2 (i := 3) (by decide +kernel) (by decide +kernel)
theorem im_J5_inflateIfNeededFor_a7421 : Cond.instanceMethod m_J5_inflateIfNeededFor_a7421.1 ∈ TW := TW_of (i := 875) (by decide +kernel) (by decide +kernel)
theorem lb_J5_inflateIfNeededFor_a7421 : ∀ (own : String) (idx : Nat), LkB own idx m_J5_inflateIfNeededFor_a7421 1 := fun _ _ => ⟨iw_J5, TW_of (i := 876) (by decide +kernel) (by decide +kernel), ⟨by decide +kernel, by decide +kernel⟩, by decide +kernel, by decide⟩
theorem lk_J5_397 : LkU "java/lang/AbstractStringBuilder" 397 "java/lang/StringBuilder" "java/lang/AbstractStringBuilder" ⟨"java/lang/AbstractStringBuilder", "inflateIfNeededFor", "(Ljava/lang/String;)V"⟩ m_J5_inflateIfNeededFor_a7421 1 := ⟨TW_of (i := 873) (by decide +kernel) (by decide +kernel), TW_of (i := 1477) (by decide +kernel) (by decide +kernel), sl_J5_inflateIfNeededFor_a7421, im_J5_inflateIfNeededFor_a7421, rfl, lb_J5_inflateIfNeededFor_a7421 _ _⟩
theorem im_J0_getBytes_840e7 : Cond.instanceMethod m_J0_getBytes_840e7.1 ∈ TW := TW_of (i := 898) (by decide +kernel) (by decide +kernel)
theorem sl_J0_getBytes_840e7 : Cond.selects "java/lang/String" m_J0_getBytes_840e7.1 m_J0_getBytes_840e7.1 ∈ TW := TW_of (i := 899) (by decide +kernel) (by decide +kernel)
theorem lb_J0_getBytes_840e7 : ∀ (own : String) (idx : Nat), LkB own idx m_J0_getBytes_840e7 3 := fun _ _ => ⟨iw_J0, TW_of (i := 900) (by decide +kernel) (by decide +kernel), ⟨by decide +kernel, by decide +kernel⟩, by decide +kernel, by decide⟩
theorem lk_J5_399 : LkV "java/lang/AbstractStringBuilder" 399 "java/lang/String" m_J0_getBytes_840e7 3 := ⟨TW_of (i := 897) (by decide +kernel) (by decide +kernel), im_J0_getBytes_840e7, sl_J0_getBytes_840e7, lb_J0_getBytes_840e7 _ _⟩
theorem nw_Jx00060_10 : NW "java/lang/ArrayIndexOutOfBoundsException" 10 1 4 := ⟨_, rfl, by decide, rfl, TW_of (i := 1030) (by decide +kernel) (by decide +kernel), TW_of (i := 257) (by decide +kernel) (by decide +kernel), TW_of (i := 32) (by decide +kernel) (by decide +kernel), nw_def 1 4 (by decide +kernel)⟩
theorem lk_Jx00060_12 : LkI "java/lang/ArrayIndexOutOfBoundsException" 12 m_J4_init_da8c8 0 := ⟨TW_of (i := 1031) (by decide +kernel) (by decide +kernel), im_J4_init_da8c8, rfl, rfl, lb_J4_init_da8c8 _ _⟩
theorem lk_Jx00060_15 : LkV "java/lang/ArrayIndexOutOfBoundsException" 15 "java/lang/StringBuilder" m_J4_append_15ec4 1 := ⟨TW_of (i := 1033) (by decide +kernel) (by decide +kernel), im_J4_append_15ec4, sl_J4_append_15ec4, lb_J4_append_15ec4 _ _⟩
theorem lk_Jx00060_19 : LkV "java/lang/ArrayIndexOutOfBoundsException" 19 "java/lang/StringBuilder" m_J4_append_bf812 1 := ⟨TW_of (i := 1034) (by decide +kernel) (by decide +kernel), im_J4_append_bf812, sl_J4_append_bf812, lb_J4_append_bf812 _ _⟩
theorem im_J4_toString_0e30d : Cond.instanceMethod m_J4_toString_0e30d.1 ∈ TW := TW_of (i := 929) (by decide +kernel) (by decide +kernel)
theorem sl_J4_toString_0e30d : Cond.selects "java/lang/StringBuilder" m_J4_toString_0e30d.1 m_J4_toString_0e30d.1 ∈ TW := TW_of (i := 930) (by decide +kernel) (by decide +kernel)
theorem lb_J4_toString_0e30d : ∀ (own : String) (idx : Nat), LkB own idx m_J4_toString_0e30d 0 := fun _ _ => ⟨iw_J4, TW_of (i := 931) (by decide +kernel) (by decide +kernel), ⟨by decide +kernel, by decide +kernel⟩, by decide +kernel, by decide⟩
theorem lk_Jx00060_22 : LkV "java/lang/ArrayIndexOutOfBoundsException" 22 "java/lang/StringBuilder" m_J4_toString_0e30d 0 := ⟨TW_of (i := 1035) (by decide +kernel) (by decide +kernel), im_J4_toString_0e30d, sl_J4_toString_0e30d, lb_J4_toString_0e30d _ _⟩
theorem gc_Jx29ce0_7 : Cond.fieldLink "java/lang/Enum" 7 "java/lang/Enum" "ordinal" "I" ∈ TW := TW_of (i := 1503) (by decide +kernel) (by decide +kernel)
theorem sm_Jxf58ca_isNaN_12338 : Cond.static m_Jxf58ca_isNaN_12338.1 ∈ TW := TW_of (i := 1443) (by decide +kernel) (by decide +kernel)
theorem iw_Jxf58ca : Cond.initialized "java/lang/Float" ∈ TW := TW_of (i := 49) (by decide +kernel) (by decide +kernel)
theorem lb_Jxf58ca_isNaN_12338 : ∀ (own : String) (idx : Nat), LkB own idx m_Jxf58ca_isNaN_12338 1 := fun _ _ => ⟨iw_Jxf58ca, TW_of (i := 1444) (by decide +kernel) (by decide +kernel), ⟨by decide +kernel, by decide +kernel⟩, by decide +kernel, by decide⟩
theorem lk_Jxf58ca_59 : LkS "java/lang/Float" 59 m_Jxf58ca_isNaN_12338 1 := ⟨TW_of (i := 1442) (by decide +kernel) (by decide +kernel), sm_Jxf58ca_isNaN_12338, lb_Jxf58ca_isNaN_12338 _ _⟩
theorem kc_Jxf58ca_77 : Cond.constant "java/lang/Float" 77 2143289344 ∈ TW := TW_of (i := 1448) (by decide +kernel) (by decide +kernel)
theorem gs_J6_83 : Cond.fieldLink "java/lang/Integer" 83 "java/lang/Integer" "DigitOnes" "[B" ∈ TW := TW_of (i := 916) (by decide +kernel) (by decide +kernel)
theorem gs_J6_87 : Cond.fieldLink "java/lang/Integer" 87 "java/lang/Integer" "DigitTens" "[B" ∈ TW := TW_of (i := 918) (by decide +kernel) (by decide +kernel)
theorem gs_J9_170 : Cond.fieldLink "java/lang/Math" 170 "java/lang/Math" "negativeZeroFloatBits" "J" ∈ TW := TW_of (i := 1453) (by decide +kernel) (by decide +kernel)
theorem im_J0_init_db425 : Cond.instanceMethod m_J0_init_db425.1 ∈ TW := TW_of (i := 938) (by decide +kernel) (by decide +kernel)
theorem lb_J0_init_db425 : ∀ (own : String) (idx : Nat), LkB own idx m_J0_init_db425 2 := fun _ _ => ⟨iw_J0, TW_of (i := 939) (by decide +kernel) (by decide +kernel), ⟨by decide +kernel, by decide +kernel⟩, by decide +kernel, by decide⟩
theorem lk_J0_489 : LkI "java/lang/String" 489 m_J0_init_db425 2 := ⟨TW_of (i := 937) (by decide +kernel) (by decide +kernel), im_J0_init_db425, rfl, rfl, lb_J0_init_db425 _ _⟩
theorem gc_J0_9 : Cond.fieldLink "java/lang/String" 9 "java/lang/String" "value" "[B" ∈ TW := TW_of (i := 985) (by decide +kernel) (by decide +kernel)
theorem gf_J0_9 : GF "java/lang/String" 9 0 0 := ⟨_, rfl, by decide, by decide, TW_of (i := 985) (by decide +kernel) (by decide +kernel)⟩
theorem lk_J0_335 : LkV "java/lang/String" 335 "java/lang/String" m_J0_coder_7d493 0 := ⟨TW_of (i := 864) (by decide +kernel) (by decide +kernel), im_J0_coder_7d493, sl_J0_coder_7d493, lb_J0_coder_7d493 _ _⟩
theorem im_J0_isLatin1_aae02 : Cond.instanceMethod m_J0_isLatin1_aae02.1 ∈ TW := TW_of (i := 1429) (by decide +kernel) (by decide +kernel)
theorem sl_J0_isLatin1_aae02 : Cond.selects "java/lang/String" m_J0_isLatin1_aae02.1 m_J0_isLatin1_aae02.1 ∈ TW := TW_of (i := 1430) (by decide +kernel) (by decide +kernel)
theorem lb_J0_isLatin1_aae02 : ∀ (own : String) (idx : Nat), LkB own idx m_J0_isLatin1_aae02 0 := fun _ _ => ⟨iw_J0, TW_of (i := 1431) (by decide +kernel) (by decide +kernel), ⟨by decide +kernel, by decide +kernel⟩, by decide +kernel, by decide⟩
theorem lk_J0_492 : LkV "java/lang/String" 492 "java/lang/String" m_J0_isLatin1_aae02 0 := ⟨TW_of (i := 1428) (by decide +kernel) (by decide +kernel), im_J0_isLatin1_aae02, sl_J0_isLatin1_aae02, lb_J0_isLatin1_aae02 _ _⟩
theorem sm_J1_charAt_3b067 : Cond.static m_J1_charAt_3b067.1 ∈ TW := TW_of (i := 1433) (by decide +kernel) (by decide +kernel)
theorem lb_J1_charAt_3b067 : ∀ (own : String) (idx : Nat), LkB own idx m_J1_charAt_3b067 2 := fun _ _ => ⟨iw_J1, TW_of (i := 1434) (by decide +kernel) (by decide +kernel), ⟨by decide +kernel, by decide +kernel⟩, by decide +kernel, by decide⟩
theorem lk_J0_495 : LkS "java/lang/String" 495 m_J1_charAt_3b067 2 := ⟨TW_of (i := 1432) (by decide +kernel) (by decide +kernel), sm_J1_charAt_3b067, lb_J1_charAt_3b067 _ _⟩
theorem sm_J2_charAt_3b067 : Cond.static m_J2_charAt_3b067.1 ∈ TW := TW_of (i := 1437) (by decide +kernel) (by decide +kernel)
theorem lb_J2_charAt_3b067 : ∀ (own : String) (idx : Nat), LkB own idx m_J2_charAt_3b067 2 := fun _ _ => ⟨iw_J2, TW_of (i := 1438) (by decide +kernel) (by decide +kernel), ⟨by decide +kernel, by decide +kernel⟩, by decide +kernel, by decide⟩
theorem lk_J0_498 : LkS "java/lang/String" 498 m_J2_charAt_3b067 2 := ⟨TW_of (i := 1436) (by decide +kernel) (by decide +kernel), sm_J2_charAt_3b067, lb_J2_charAt_3b067 _ _⟩
theorem lk_J0_106 : LkS "java/lang/String" 106 m_J1_inflate_0e8fd 5 := ⟨TW_of (i := 902) (by decide +kernel) (by decide +kernel), sm_J1_inflate_0e8fd, lb_J1_inflate_0e8fd _ _⟩
theorem oi_J0_1 : Cond.methodLink "java/lang/String" 1 Lib.objectInit ∈ TW := TW_of (i := 940) (by decide +kernel) (by decide +kernel)
theorem im_J5_getValue_6d5f1 : Cond.instanceMethod m_J5_getValue_6d5f1.1 ∈ TW := TW_of (i := 942) (by decide +kernel) (by decide +kernel)
theorem lb_J5_getValue_6d5f1 : ∀ (own : String) (idx : Nat), LkB own idx m_J5_getValue_6d5f1 0 := fun _ _ => ⟨iw_J5, TW_of (i := 945) (by decide +kernel) (by decide +kernel), ⟨by decide +kernel, by decide +kernel⟩, by decide +kernel, by decide⟩
theorem lk_J0_552 : LkU "java/lang/String" 552 "java/lang/StringBuilder" "java/lang/AbstractStringBuilder" ⟨"java/lang/AbstractStringBuilder", "getValue", "()[B"⟩ m_J5_getValue_6d5f1 0 := ⟨TW_of (i := 941) (by decide +kernel) (by decide +kernel), TW_of (i := 943) (by decide +kernel) (by decide +kernel), TW_of (i := 944) (by decide +kernel) (by decide +kernel), im_J5_getValue_6d5f1, rfl, lb_J5_getValue_6d5f1 _ _⟩
theorem lk_J0_1047 : LkU "java/lang/String" 1047 "java/lang/StringBuilder" "java/lang/AbstractStringBuilder" ⟨"java/lang/AbstractStringBuilder", "isLatin1", "()Z"⟩ m_J5_isLatin1_aae02 0 := ⟨TW_of (i := 954) (by decide +kernel) (by decide +kernel), TW_of (i := 831) (by decide +kernel) (by decide +kernel), TW_of (i := 832) (by decide +kernel) (by decide +kernel), im_J5_isLatin1_aae02, rfl, lb_J5_isLatin1_aae02 _ _⟩
theorem ff_J0_15 : FF "java/lang/String" 15 0 1 .byte := ⟨_, rfl, by decide, by decide, TW_of (i := 986) (by decide +kernel) (by decide +kernel), rfl, by decide +kernel, rfl⟩
theorem sm_J7_copyOfRange_39247 : Cond.static m_J7_copyOfRange_39247.1 ∈ TW := TW_of (i := 956) (by decide +kernel) (by decide +kernel)
theorem lb_J7_copyOfRange_39247 : ∀ (own : String) (idx : Nat), LkB own idx m_J7_copyOfRange_39247 3 := fun _ _ => ⟨iw_J7, TW_of (i := 957) (by decide +kernel) (by decide +kernel), ⟨by decide +kernel, by decide +kernel⟩, by decide +kernel, by decide⟩
theorem lk_J0_54 : LkS "java/lang/String" 54 m_J7_copyOfRange_39247 3 := ⟨TW_of (i := 955) (by decide +kernel) (by decide +kernel), sm_J7_copyOfRange_39247, lb_J7_copyOfRange_39247 _ _⟩
theorem ff_J0_9 : FF "java/lang/String" 9 0 0 (.array .byte) := ⟨_, rfl, by decide, by decide, TW_of (i := 985) (by decide +kernel) (by decide +kernel), rfl, by decide +kernel, rfl⟩
theorem gs_J0_38 : Cond.fieldLink "java/lang/String" 38 "java/lang/String" "COMPACT_STRINGS" "Z" ∈ TW := TW_of (i := 868) (by decide +kernel) (by decide +kernel)
theorem gf_J0_1048 : GF "java/lang/String" 1048 1 2 := ⟨_, rfl, by decide, by decide, TW_of (i := 277) (by decide +kernel) (by decide +kernel)⟩
theorem sm_J2_compress_39247 : Cond.static m_J2_compress_39247.1 ∈ TW := TW_of (i := 973) (by decide +kernel) (by decide +kernel)
theorem lb_J2_compress_39247 : ∀ (own : String) (idx : Nat), LkB own idx m_J2_compress_39247 3 := fun _ _ => ⟨iw_J2, TW_of (i := 974) (by decide +kernel) (by decide +kernel), ⟨by decide +kernel, by decide +kernel⟩, by decide +kernel, by decide⟩
theorem lk_J0_1051 : LkS "java/lang/String" 1051 m_J2_compress_39247 3 := ⟨TW_of (i := 972) (by decide +kernel) (by decide +kernel), sm_J2_compress_39247, lb_J2_compress_39247 _ _⟩
theorem sm_J2_coderFromArrayLen_85cad : Cond.static m_J2_coderFromArrayLen_85cad.1 ∈ TW := TW_of (i := 983) (by decide +kernel) (by decide +kernel)
theorem lb_J2_coderFromArrayLen_85cad : ∀ (own : String) (idx : Nat), LkB own idx m_J2_coderFromArrayLen_85cad 2 := fun _ _ => ⟨iw_J2, TW_of (i := 984) (by decide +kernel) (by decide +kernel), ⟨by decide +kernel, by decide +kernel⟩, by decide +kernel, by decide⟩
theorem lk_J0_47 : LkS "java/lang/String" 47 m_J2_coderFromArrayLen_85cad 2 := ⟨TW_of (i := 982) (by decide +kernel) (by decide +kernel), sm_J2_coderFromArrayLen_85cad, lb_J2_coderFromArrayLen_85cad _ _⟩
theorem gc_J0_15 : Cond.fieldLink "java/lang/String" 15 "java/lang/String" "coder" "B" ∈ TW := TW_of (i := 986) (by decide +kernel) (by decide +kernel)
theorem gf_J0_15 : GF "java/lang/String" 15 0 1 := ⟨_, rfl, by decide, by decide, TW_of (i := 986) (by decide +kernel) (by decide +kernel)⟩
theorem gs_J0_1053 : Cond.fieldLink "java/lang/String" 1053 "jdk/internal/util/Preconditions" "SIOOBE_FORMATTER" "Ljava/util/function/BiFunction;" ∈ TW := TW_of (i := 846) (by decide +kernel) (by decide +kernel)
theorem sm_J3_checkIndex_8e157 : Cond.static m_J3_checkIndex_8e157.1 ∈ TW := TW_of (i := 1067) (by decide +kernel) (by decide +kernel)
theorem iw_J3 : Cond.initialized "jdk/internal/util/Preconditions" ∈ TW := TW_of (i := 54) (by decide +kernel) (by decide +kernel)
theorem lb_J3_checkIndex_8e157 : ∀ (own : String) (idx : Nat), LkB own idx m_J3_checkIndex_8e157 3 := fun _ _ => ⟨iw_J3, TW_of (i := 1068) (by decide +kernel) (by decide +kernel), ⟨by decide +kernel, by decide +kernel⟩, by decide +kernel, by decide⟩
theorem lk_J0_1059 : LkS "java/lang/String" 1059 m_J3_checkIndex_8e157 3 := ⟨TW_of (i := 1066) (by decide +kernel) (by decide +kernel), sm_J3_checkIndex_8e157, lb_J3_checkIndex_8e157 _ _⟩
theorem sm_J3_checkFromIndexSize_8c36e : Cond.static m_J3_checkFromIndexSize_8c36e.1 ∈ TW := TW_of (i := 895) (by decide +kernel) (by decide +kernel)
theorem lb_J3_checkFromIndexSize_8c36e : ∀ (own : String) (idx : Nat), LkB own idx m_J3_checkFromIndexSize_8c36e 4 := fun _ _ => ⟨iw_J3, TW_of (i := 896) (by decide +kernel) (by decide +kernel), ⟨by decide +kernel, by decide +kernel⟩, by decide +kernel, by decide⟩
theorem lk_J0_1065 : LkS "java/lang/String" 1065 m_J3_checkFromIndexSize_8c36e 4 := ⟨TW_of (i := 894) (by decide +kernel) (by decide +kernel), sm_J3_checkFromIndexSize_8c36e, lb_J3_checkFromIndexSize_8c36e _ _⟩
theorem sm_J3_checkFromToIndex_8c36e : Cond.static m_J3_checkFromToIndex_8c36e.1 ∈ TW := TW_of (i := 849) (by decide +kernel) (by decide +kernel)
theorem lb_J3_checkFromToIndex_8c36e : ∀ (own : String) (idx : Nat), LkB own idx m_J3_checkFromToIndex_8c36e 4 := fun _ _ => ⟨iw_J3, TW_of (i := 850) (by decide +kernel) (by decide +kernel), ⟨by decide +kernel, by decide +kernel⟩, by decide +kernel, by decide⟩
theorem lk_J0_1062 : LkS "java/lang/String" 1062 m_J3_checkFromToIndex_8c36e 4 := ⟨TW_of (i := 848) (by decide +kernel) (by decide +kernel), sm_J3_checkFromToIndex_8c36e, lb_J3_checkFromToIndex_8c36e _ _⟩
theorem im_J5_init_d00df : Cond.instanceMethod m_J5_init_d00df.1 ∈ TW := TW_of (i := 262) (by decide +kernel) (by decide +kernel)
theorem lb_J5_init_d00df : ∀ (own : String) (idx : Nat), LkB own idx m_J5_init_d00df 1 := fun _ _ => ⟨iw_J5, TW_of (i := 263) (by decide +kernel) (by decide +kernel), ⟨by decide +kernel, by decide +kernel⟩, by decide +kernel, by decide⟩
theorem lk_J4_1 : LkI "java/lang/StringBuilder" 1 m_J5_init_d00df 1 := ⟨TW_of (i := 261) (by decide +kernel) (by decide +kernel), im_J5_init_d00df, rfl, rfl, lb_J5_init_d00df _ _⟩
theorem im_J5_append_cf1ce : Cond.instanceMethod m_J5_append_cf1ce.1 ∈ TW := TW_of (i := 792) (by decide +kernel) (by decide +kernel)
theorem lb_J5_append_cf1ce : ∀ (own : String) (idx : Nat), LkB own idx m_J5_append_cf1ce 1 := fun _ _ => ⟨iw_J5, TW_of (i := 793) (by decide +kernel) (by decide +kernel), ⟨by decide +kernel, by decide +kernel⟩, by decide +kernel, by decide⟩
theorem lk_J4_29 : LkSU "java/lang/StringBuilder" 29 m_J5_append_cf1ce 1 := ⟨TW_of (i := 791) (by decide +kernel) (by decide +kernel), TW_of (i := 1472) (by decide +kernel) (by decide +kernel), TW_of (i := 287) (by decide +kernel) (by decide +kernel), im_J5_append_cf1ce, by decide +kernel, lb_J5_append_cf1ce _ _⟩
theorem im_J5_append_3fe6f : Cond.instanceMethod m_J5_append_3fe6f.1 ∈ TW := TW_of (i := 1052) (by decide +kernel) (by decide +kernel)
theorem lb_J5_append_3fe6f : ∀ (own : String) (idx : Nat), LkB own idx m_J5_append_3fe6f 1 := fun _ _ => ⟨iw_J5, TW_of (i := 1053) (by decide +kernel) (by decide +kernel), ⟨by decide +kernel, by decide +kernel⟩, by decide +kernel, by decide⟩
theorem lk_J4_50 : LkSU "java/lang/StringBuilder" 50 m_J5_append_3fe6f 1 := ⟨TW_of (i := 1051) (by decide +kernel) (by decide +kernel), TW_of (i := 1480) (by decide +kernel) (by decide +kernel), TW_of (i := 287) (by decide +kernel) (by decide +kernel), im_J5_append_3fe6f, by decide +kernel, lb_J5_append_3fe6f _ _⟩
theorem im_J5_append_c97b9 : Cond.instanceMethod m_J5_append_c97b9.1 ∈ TW := TW_of (i := 908) (by decide +kernel) (by decide +kernel)
theorem lb_J5_append_c97b9 : ∀ (own : String) (idx : Nat), LkB own idx m_J5_append_c97b9 1 := fun _ _ => ⟨iw_J5, TW_of (i := 909) (by decide +kernel) (by decide +kernel), ⟨by decide +kernel, by decide +kernel⟩, by decide +kernel, by decide⟩
theorem lk_J4_53 : LkSU "java/lang/StringBuilder" 53 m_J5_append_c97b9 1 := ⟨TW_of (i := 907) (by decide +kernel) (by decide +kernel), TW_of (i := 1479) (by decide +kernel) (by decide +kernel), TW_of (i := 287) (by decide +kernel) (by decide +kernel), im_J5_append_c97b9, by decide +kernel, lb_J5_append_c97b9 _ _⟩
theorem nw_J4_18 : NW "java/lang/StringBuilder" 18 0 4 := ⟨_, rfl, by decide, rfl, TW_of (i := 932) (by decide +kernel) (by decide +kernel), TW_of (i := 933) (by decide +kernel) (by decide +kernel), TW_of (i := 33) (by decide +kernel) (by decide +kernel), nw_def 0 4 (by decide +kernel)⟩
theorem im_J0_init_81219 : Cond.instanceMethod m_J0_init_81219.1 ∈ TW := TW_of (i := 935) (by decide +kernel) (by decide +kernel)
theorem lb_J0_init_81219 : ∀ (own : String) (idx : Nat), LkB own idx m_J0_init_81219 1 := fun _ _ => ⟨iw_J0, TW_of (i := 936) (by decide +kernel) (by decide +kernel), ⟨by decide +kernel, by decide +kernel⟩, by decide +kernel, by decide⟩
theorem lk_J4_137 : LkI "java/lang/StringBuilder" 137 m_J0_init_81219 1 := ⟨TW_of (i := 934) (by decide +kernel) (by decide +kernel), im_J0_init_81219, rfl, rfl, lb_J0_init_81219 _ _⟩
theorem im_J5_charAt_5068e : Cond.instanceMethod m_J5_charAt_5068e.1 ∈ TW := TW_of (i := 1411) (by decide +kernel) (by decide +kernel)
theorem lb_J5_charAt_5068e : ∀ (own : String) (idx : Nat), LkB own idx m_J5_charAt_5068e 1 := fun _ _ => ⟨iw_J5, TW_of (i := 1412) (by decide +kernel) (by decide +kernel), ⟨by decide +kernel, by decide +kernel⟩, by decide +kernel, by decide⟩
theorem lk_J4_329 : LkSU "java/lang/StringBuilder" 329 m_J5_charAt_5068e 1 := ⟨TW_of (i := 1410) (by decide +kernel) (by decide +kernel), TW_of (i := 1482) (by decide +kernel) (by decide +kernel), TW_of (i := 287) (by decide +kernel) (by decide +kernel), im_J5_charAt_5068e, by decide +kernel, lb_J5_charAt_5068e _ _⟩
theorem im_J5_setLength_d00df : Cond.instanceMethod m_J5_setLength_d00df.1 ∈ TW := TW_of (i := 777) (by decide +kernel) (by decide +kernel)
theorem lb_J5_setLength_d00df : ∀ (own : String) (idx : Nat), LkB own idx m_J5_setLength_d00df 1 := fun _ _ => ⟨iw_J5, TW_of (i := 778) (by decide +kernel) (by decide +kernel), ⟨by decide +kernel, by decide +kernel⟩, by decide +kernel, by decide⟩
theorem lk_J4_333 : LkSU "java/lang/StringBuilder" 333 m_J5_setLength_d00df 1 := ⟨TW_of (i := 776) (by decide +kernel) (by decide +kernel), TW_of (i := 1471) (by decide +kernel) (by decide +kernel), TW_of (i := 287) (by decide +kernel) (by decide +kernel), im_J5_setLength_d00df, by decide +kernel, lb_J5_setLength_d00df _ _⟩
theorem im_J5_length_8abf5 : Cond.instanceMethod m_J5_length_8abf5.1 ∈ TW := TW_of (i := 947) (by decide +kernel) (by decide +kernel)
theorem lb_J5_length_8abf5 : ∀ (own : String) (idx : Nat), LkB own idx m_J5_length_8abf5 0 := fun _ _ => ⟨iw_J5, TW_of (i := 953) (by decide +kernel) (by decide +kernel), ⟨by decide +kernel, by decide +kernel⟩, by decide +kernel, by decide⟩
theorem lk_J4_343 : LkSU "java/lang/StringBuilder" 343 m_J5_length_8abf5 0 := ⟨TW_of (i := 952) (by decide +kernel) (by decide +kernel), TW_of (i := 948) (by decide +kernel) (by decide +kernel), TW_of (i := 287) (by decide +kernel) (by decide +kernel), im_J5_length_8abf5, by decide +kernel, lb_J5_length_8abf5 _ _⟩
theorem nw_Jx7c733_10 : NW "java/lang/StringIndexOutOfBoundsException" 10 1 4 := ⟨_, rfl, by decide, rfl, TW_of (i := 784) (by decide +kernel) (by decide +kernel), TW_of (i := 257) (by decide +kernel) (by decide +kernel), TW_of (i := 32) (by decide +kernel) (by decide +kernel), nw_def 1 4 (by decide +kernel)⟩
theorem lk_Jx7c733_12 : LkI "java/lang/StringIndexOutOfBoundsException" 12 m_J4_init_da8c8 0 := ⟨TW_of (i := 785) (by decide +kernel) (by decide +kernel), im_J4_init_da8c8, rfl, rfl, lb_J4_init_da8c8 _ _⟩
theorem lk_Jx7c733_15 : LkV "java/lang/StringIndexOutOfBoundsException" 15 "java/lang/StringBuilder" m_J4_append_15ec4 1 := ⟨TW_of (i := 787) (by decide +kernel) (by decide +kernel), im_J4_append_15ec4, sl_J4_append_15ec4, lb_J4_append_15ec4 _ _⟩
theorem lk_Jx7c733_19 : LkV "java/lang/StringIndexOutOfBoundsException" 19 "java/lang/StringBuilder" m_J4_append_bf812 1 := ⟨TW_of (i := 903) (by decide +kernel) (by decide +kernel), im_J4_append_bf812, sl_J4_append_bf812, lb_J4_append_bf812 _ _⟩
theorem lk_Jx7c733_22 : LkV "java/lang/StringIndexOutOfBoundsException" 22 "java/lang/StringBuilder" m_J4_toString_0e30d 0 := ⟨TW_of (i := 928) (by decide +kernel) (by decide +kernel), im_J4_toString_0e30d, sl_J4_toString_0e30d, lb_J4_toString_0e30d _ _⟩
theorem lk_J1_9 : LkS "java/lang/StringLatin1" 9 m_J0_checkIndex_df160 2 := ⟨TW_of (i := 1435) (by decide +kernel) (by decide +kernel), sm_J0_checkIndex_df160, lb_J0_checkIndex_df160 _ _⟩
theorem sm_J7_fill_eb02e : Cond.static m_J7_fill_eb02e.1 ∈ TW := TW_of (i := 1008) (by decide +kernel) (by decide +kernel)
theorem lb_J7_fill_eb02e : ∀ (own : String) (idx : Nat), LkB own idx m_J7_fill_eb02e 4 := fun _ _ => ⟨iw_J7, TW_of (i := 1009) (by decide +kernel) (by decide +kernel), ⟨by decide +kernel, by decide +kernel⟩, by decide +kernel, by decide⟩
theorem lk_J1_236 : LkS "java/lang/StringLatin1" 236 m_J7_fill_eb02e 4 := ⟨TW_of (i := 1007) (by decide +kernel) (by decide +kernel), sm_J7_fill_eb02e, lb_J7_fill_eb02e _ _⟩
theorem sm_J2_inflate_0e8fd : Cond.static m_J2_inflate_0e8fd.1 ∈ TW := TW_of (i := 886) (by decide +kernel) (by decide +kernel)
theorem lb_J2_inflate_0e8fd : ∀ (own : String) (idx : Nat), LkB own idx m_J2_inflate_0e8fd 5 := fun _ _ => ⟨iw_J2, TW_of (i := 887) (by decide +kernel) (by decide +kernel), ⟨by decide +kernel, by decide +kernel⟩, by decide +kernel, by decide⟩
theorem lk_J1_240 : LkS "java/lang/StringLatin1" 240 m_J2_inflate_0e8fd 5 := ⟨TW_of (i := 885) (by decide +kernel) (by decide +kernel), sm_J2_inflate_0e8fd, lb_J2_inflate_0e8fd _ _⟩
theorem sm_J2_newBytesLength_0f7a4 : Cond.static m_J2_newBytesLength_0f7a4.1 ∈ TW := TW_of (i := 271) (by decide +kernel) (by decide +kernel)
theorem lb_J2_newBytesLength_0f7a4 : ∀ (own : String) (idx : Nat), LkB own idx m_J2_newBytesLength_0f7a4 1 := fun _ _ => ⟨iw_J2, TW_of (i := 272) (by decide +kernel) (by decide +kernel), ⟨by decide +kernel, by decide +kernel⟩, by decide +kernel, by decide⟩
theorem lk_J2_11 : LkS "java/lang/StringUTF16" 11 m_J2_newBytesLength_0f7a4 1 := ⟨TW_of (i := 270) (by decide +kernel) (by decide +kernel), sm_J2_newBytesLength_0f7a4, lb_J2_newBytesLength_0f7a4 _ _⟩
theorem kc_J2_20 : Cond.constant "java/lang/StringUTF16" 20 1073741823 ∈ TW := TW_of (i := 273) (by decide +kernel) (by decide +kernel)
theorem gs_J2_44 : Cond.fieldLink "java/lang/StringUTF16" 44 "java/lang/StringUTF16" "$assertionsDisabled" "Z" ∈ TW := TW_of (i := 854) (by decide +kernel) (by decide +kernel)
theorem sm_J2_length_9d52b : Cond.static m_J2_length_9d52b.1 ∈ TW := TW_of (i := 841) (by decide +kernel) (by decide +kernel)
theorem lb_J2_length_9d52b : ∀ (own : String) (idx : Nat), LkB own idx m_J2_length_9d52b 1 := fun _ _ => ⟨iw_J2, TW_of (i := 842) (by decide +kernel) (by decide +kernel), ⟨by decide +kernel, by decide +kernel⟩, by decide +kernel, by decide⟩
theorem lk_J2_48 : LkS "java/lang/StringUTF16" 48 m_J2_length_9d52b 1 := ⟨TW_of (i := 840) (by decide +kernel) (by decide +kernel), sm_J2_length_9d52b, lb_J2_length_9d52b _ _⟩
theorem gs_J2_59 : Cond.fieldLink "java/lang/StringUTF16" 59 "java/lang/StringUTF16" "HI_BYTE_SHIFT" "I" ∈ TW := TW_of (i := 856) (by decide +kernel) (by decide +kernel)
theorem gs_J2_63 : Cond.fieldLink "java/lang/StringUTF16" 63 "java/lang/StringUTF16" "LO_BYTE_SHIFT" "I" ∈ TW := TW_of (i := 858) (by decide +kernel) (by decide +kernel)
theorem sm_J2_compress_5af95 : Cond.static m_J2_compress_5af95.1 ∈ TW := TW_of (i := 976) (by decide +kernel) (by decide +kernel)
theorem lb_J2_compress_5af95 : ∀ (own : String) (idx : Nat), LkB own idx m_J2_compress_5af95 5 := fun _ _ => ⟨iw_J2, TW_of (i := 977) (by decide +kernel) (by decide +kernel), ⟨by decide +kernel, by decide +kernel⟩, by decide +kernel, by decide⟩
theorem lk_J2_123 : LkS "java/lang/StringUTF16" 123 m_J2_compress_5af95 5 := ⟨TW_of (i := 975) (by decide +kernel) (by decide +kernel), sm_J2_compress_5af95, lb_J2_compress_5af95 _ _⟩
theorem lk_J2_126 : LkS "java/lang/StringUTF16" 126 m_J7_copyOfRange_39247 3 := ⟨TW_of (i := 981) (by decide +kernel) (by decide +kernel), sm_J7_copyOfRange_39247, lb_J7_copyOfRange_39247 _ _⟩
theorem lk_J2_71 : LkS "java/lang/StringUTF16" 71 m_J2_getChar_3b067 2 := ⟨TW_of (i := 978) (by decide +kernel) (by decide +kernel), sm_J2_getChar_3b067, lb_J2_getChar_3b067 _ _⟩
theorem sm_J2_checkBoundsOffCount_d044e : Cond.static m_J2_checkBoundsOffCount_d044e.1 ∈ TW := TW_of (i := 889) (by decide +kernel) (by decide +kernel)
theorem lb_J2_checkBoundsOffCount_d044e : ∀ (own : String) (idx : Nat), LkB own idx m_J2_checkBoundsOffCount_d044e 3 := fun _ _ => ⟨iw_J2, TW_of (i := 890) (by decide +kernel) (by decide +kernel), ⟨by decide +kernel, by decide +kernel⟩, by decide +kernel, by decide⟩
theorem lk_J2_173 : LkS "java/lang/StringUTF16" 173 m_J2_checkBoundsOffCount_d044e 3 := ⟨TW_of (i := 888) (by decide +kernel) (by decide +kernel), sm_J2_checkBoundsOffCount_d044e, lb_J2_checkBoundsOffCount_d044e _ _⟩
theorem lk_J2_380 : LkS "java/lang/StringUTF16" 380 m_J7_fill_eb02e 4 := ⟨TW_of (i := 1042) (by decide +kernel) (by decide +kernel), sm_J7_fill_eb02e, lb_J7_fill_eb02e _ _⟩
theorem sm_J2_checkIndex_2214a : Cond.static m_J2_checkIndex_2214a.1 ∈ TW := TW_of (i := 1061) (by decide +kernel) (by decide +kernel)
theorem lb_J2_checkIndex_2214a : ∀ (own : String) (idx : Nat), LkB own idx m_J2_checkIndex_2214a 2 := fun _ _ => ⟨iw_J2, TW_of (i := 1062) (by decide +kernel) (by decide +kernel), ⟨by decide +kernel, by decide +kernel⟩, by decide +kernel, by decide⟩
theorem lk_J2_67 : LkS "java/lang/StringUTF16" 67 m_J2_checkIndex_2214a 2 := ⟨TW_of (i := 1060) (by decide +kernel) (by decide +kernel), sm_J2_checkIndex_2214a, lb_J2_checkIndex_2214a _ _⟩
theorem sm_J2_putChar_b72d1 : Cond.static m_J2_putChar_b72d1.1 ∈ TW := TW_of (i := 852) (by decide +kernel) (by decide +kernel)
theorem lb_J2_putChar_b72d1 : ∀ (own : String) (idx : Nat), LkB own idx m_J2_putChar_b72d1 3 := fun _ _ => ⟨iw_J2, TW_of (i := 853) (by decide +kernel) (by decide +kernel), ⟨by decide +kernel, by decide +kernel⟩, by decide +kernel, by decide⟩
theorem lk_J2_111 : LkS "java/lang/StringUTF16" 111 m_J2_putChar_b72d1 3 := ⟨TW_of (i := 851) (by decide +kernel) (by decide +kernel), sm_J2_putChar_b72d1, lb_J2_putChar_b72d1 _ _⟩
theorem sm_J2_checkBoundsBeginEnd_d044e : Cond.static m_J2_checkBoundsBeginEnd_d044e.1 ∈ TW := TW_of (i := 838) (by decide +kernel) (by decide +kernel)
theorem lb_J2_checkBoundsBeginEnd_d044e : ∀ (own : String) (idx : Nat), LkB own idx m_J2_checkBoundsBeginEnd_d044e 3 := fun _ _ => ⟨iw_J2, TW_of (i := 839) (by decide +kernel) (by decide +kernel), ⟨by decide +kernel, by decide +kernel⟩, by decide +kernel, by decide⟩
theorem lk_J2_96 : LkS "java/lang/StringUTF16" 96 m_J2_checkBoundsBeginEnd_d044e 3 := ⟨TW_of (i := 837) (by decide +kernel) (by decide +kernel), sm_J2_checkBoundsBeginEnd_d044e, lb_J2_checkBoundsBeginEnd_d044e _ _⟩
theorem sm_J2_getChars_ba4f3 : Cond.static m_J2_getChars_ba4f3.1 ∈ TW := TW_of (i := 924) (by decide +kernel) (by decide +kernel)
theorem lb_J2_getChars_ba4f3 : ∀ (own : String) (idx : Nat), LkB own idx m_J2_getChars_ba4f3 3 := fun _ _ => ⟨iw_J2, TW_of (i := 925) (by decide +kernel) (by decide +kernel), ⟨by decide +kernel, by decide +kernel⟩, by decide +kernel, by decide⟩
theorem lk_J2_393 : LkS "java/lang/StringUTF16" 393 m_J2_getChars_ba4f3 3 := ⟨TW_of (i := 923) (by decide +kernel) (by decide +kernel), sm_J2_getChars_ba4f3, lb_J2_getChars_ba4f3 _ _⟩
theorem gs_J2_403 : Cond.fieldLink "java/lang/StringUTF16" 403 "java/lang/Integer" "DigitOnes" "[B" ∈ TW := TW_of (i := 926) (by decide +kernel) (by decide +kernel)
theorem gs_J2_407 : Cond.fieldLink "java/lang/StringUTF16" 407 "java/lang/Integer" "DigitTens" "[B" ∈ TW := TW_of (i := 927) (by decide +kernel) (by decide +kernel)
theorem lk_J2_414 : LkS "java/lang/StringUTF16" 414 m_J0_checkIndex_df160 2 := ⟨TW_of (i := 1063) (by decide +kernel) (by decide +kernel), sm_J0_checkIndex_df160, lb_J0_checkIndex_df160 _ _⟩
theorem sm_J0_checkBoundsBeginEnd_23922 : Cond.static m_J0_checkBoundsBeginEnd_23922.1 ∈ TW := TW_of (i := 844) (by decide +kernel) (by decide +kernel)
theorem lb_J0_checkBoundsBeginEnd_23922 : ∀ (own : String) (idx : Nat), LkB own idx m_J0_checkBoundsBeginEnd_23922 3 := fun _ _ => ⟨iw_J0, TW_of (i := 845) (by decide +kernel) (by decide +kernel), ⟨by decide +kernel, by decide +kernel⟩, by decide +kernel, by decide⟩
theorem lk_J2_241 : LkS "java/lang/StringUTF16" 241 m_J0_checkBoundsBeginEnd_23922 3 := ⟨TW_of (i := 843) (by decide +kernel) (by decide +kernel), sm_J0_checkBoundsBeginEnd_23922, lb_J0_checkBoundsBeginEnd_23922 _ _⟩
theorem sm_J0_checkBoundsOffCount_cabcc : Cond.static m_J0_checkBoundsOffCount_cabcc.1 ∈ TW := TW_of (i := 892) (by decide +kernel) (by decide +kernel)
theorem lb_J0_checkBoundsOffCount_cabcc : ∀ (own : String) (idx : Nat), LkB own idx m_J0_checkBoundsOffCount_cabcc 3 := fun _ _ => ⟨iw_J0, TW_of (i := 893) (by decide +kernel) (by decide +kernel), ⟨by decide +kernel, by decide +kernel⟩, by decide +kernel, by decide⟩
theorem lk_J2_419 : LkS "java/lang/StringUTF16" 419 m_J0_checkBoundsOffCount_cabcc 3 := ⟨TW_of (i := 891) (by decide +kernel) (by decide +kernel), sm_J0_checkBoundsOffCount_cabcc, lb_J0_checkBoundsOffCount_cabcc _ _⟩
theorem nw_J7_45 : NW "java/util/Arrays" 45 1 4 := ⟨_, rfl, by decide, rfl, TW_of (i := 965) (by decide +kernel) (by decide +kernel), TW_of (i := 257) (by decide +kernel) (by decide +kernel), TW_of (i := 32) (by decide +kernel) (by decide +kernel), nw_def 1 4 (by decide +kernel)⟩
theorem lk_J7_47 : LkI "java/util/Arrays" 47 m_J4_init_da8c8 0 := ⟨TW_of (i := 966) (by decide +kernel) (by decide +kernel), im_J4_init_da8c8, rfl, rfl, lb_J4_init_da8c8 _ _⟩
theorem lk_J7_50 : LkV "java/util/Arrays" 50 "java/lang/StringBuilder" m_J4_append_15ec4 1 := ⟨TW_of (i := 969) (by decide +kernel) (by decide +kernel), im_J4_append_15ec4, sl_J4_append_15ec4, lb_J4_append_15ec4 _ _⟩
theorem lk_J7_54 : LkV "java/util/Arrays" 54 "java/lang/StringBuilder" m_J4_append_bf812 1 := ⟨TW_of (i := 967) (by decide +kernel) (by decide +kernel), im_J4_append_bf812, sl_J4_append_bf812, lb_J4_append_bf812 _ _⟩
theorem lk_J7_61 : LkV "java/util/Arrays" 61 "java/lang/StringBuilder" m_J4_toString_0e30d 0 := ⟨TW_of (i := 970) (by decide +kernel) (by decide +kernel), im_J4_toString_0e30d, sl_J4_toString_0e30d, lb_J4_toString_0e30d _ _⟩
theorem im_Jx00060_init_d00df : Cond.instanceMethod m_Jx00060_init_d00df.1 ∈ TW := TW_of (i := 1028) (by decide +kernel) (by decide +kernel)
theorem iw_Jx00060 : Cond.initialized "java/lang/ArrayIndexOutOfBoundsException" ∈ TW := TW_of (i := 47) (by decide +kernel) (by decide +kernel)
theorem lb_Jx00060_init_d00df : ∀ (own : String) (idx : Nat), LkB own idx m_Jx00060_init_d00df 1 := fun _ _ => ⟨iw_Jx00060, TW_of (i := 1029) (by decide +kernel) (by decide +kernel), ⟨by decide +kernel, by decide +kernel⟩, by decide +kernel, by decide⟩
theorem lk_J7_70 : LkI "java/util/Arrays" 70 m_Jx00060_init_d00df 1 := ⟨TW_of (i := 1027) (by decide +kernel) (by decide +kernel), im_Jx00060_init_d00df, rfl, rfl, lb_Jx00060_init_d00df _ _⟩
theorem sm_J7_rangeCheck_23922 : Cond.static m_J7_rangeCheck_23922.1 ∈ TW := TW_of (i := 1011) (by decide +kernel) (by decide +kernel)
theorem lb_J7_rangeCheck_23922 : ∀ (own : String) (idx : Nat), LkB own idx m_J7_rangeCheck_23922 3 := fun _ _ => ⟨iw_J7, TW_of (i := 1012) (by decide +kernel) (by decide +kernel), ⟨by decide +kernel, by decide +kernel⟩, by decide +kernel, by decide⟩
theorem lk_J7_13 : LkS "java/util/Arrays" 13 m_J7_rangeCheck_23922 3 := ⟨TW_of (i := 1010) (by decide +kernel) (by decide +kernel), sm_J7_rangeCheck_23922, lb_J7_rangeCheck_23922 _ _⟩
theorem mm_J7_304 : Cond.methodLink "java/util/Arrays" 304 Lib.Math.min.name ∈ TW := TW_of (i := 825) (by decide +kernel) (by decide +kernel)
theorem sm_J7_copyOfRangeByte_39247 : Cond.static m_J7_copyOfRangeByte_39247.1 ∈ TW := TW_of (i := 959) (by decide +kernel) (by decide +kernel)
theorem lb_J7_copyOfRangeByte_39247 : ∀ (own : String) (idx : Nat), LkB own idx m_J7_copyOfRangeByte_39247 3 := fun _ _ => ⟨iw_J7, TW_of (i := 960) (by decide +kernel) (by decide +kernel), ⟨by decide +kernel, by decide +kernel⟩, by decide +kernel, by decide⟩
theorem lk_J7_339 : LkS "java/util/Arrays" 339 m_J7_copyOfRangeByte_39247 3 := ⟨TW_of (i := 958) (by decide +kernel) (by decide +kernel), sm_J7_copyOfRangeByte_39247, lb_J7_copyOfRangeByte_39247 _ _⟩
theorem sm_J7_checkLength_df160 : Cond.static m_J7_checkLength_df160.1 ∈ TW := TW_of (i := 962) (by decide +kernel) (by decide +kernel)
theorem lb_J7_checkLength_df160 : ∀ (own : String) (idx : Nat), LkB own idx m_J7_checkLength_df160 2 := fun _ _ => ⟨iw_J7, TW_of (i := 963) (by decide +kernel) (by decide +kernel), ⟨by decide +kernel, by decide +kernel⟩, by decide +kernel, by decide⟩
theorem lk_J7_343 : LkS "java/util/Arrays" 343 m_J7_checkLength_df160 2 := ⟨TW_of (i := 961) (by decide +kernel) (by decide +kernel), sm_J7_checkLength_df160, lb_J7_checkLength_df160 _ _⟩
theorem mm_J8_194 : Cond.methodLink "jdk/internal/util/ArraysSupport" 194 Lib.Math.max.name ∈ TW := TW_of (i := 809) (by decide +kernel) (by decide +kernel)
theorem kc_J8_200 : Cond.constant "jdk/internal/util/ArraysSupport" 200 2147483639 ∈ TW := TW_of (i := 810) (by decide +kernel) (by decide +kernel)
theorem sm_J8_hugeLength_7cf53 : Cond.static m_J8_hugeLength_7cf53.1 ∈ TW := TW_of (i := 812) (by decide +kernel) (by decide +kernel)
theorem lb_J8_hugeLength_7cf53 : ∀ (own : String) (idx : Nat), LkB own idx m_J8_hugeLength_7cf53 2 := fun _ _ => ⟨iw_J8, TW_of (i := 813) (by decide +kernel) (by decide +kernel), ⟨by decide +kernel, by decide +kernel⟩, by decide +kernel, by decide⟩
theorem lk_J8_201 : LkS "jdk/internal/util/ArraysSupport" 201 m_J8_hugeLength_7cf53 2 := ⟨TW_of (i := 811) (by decide +kernel) (by decide +kernel), sm_J8_hugeLength_7cf53, lb_J8_hugeLength_7cf53 _ _⟩
theorem sm_L_cell : Cond.static m_L_cell.1 ∈ TW := TW_of (i := 1149) (by decide +kernel) (by decide +kernel)
theorem iw_L : Cond.initialized "TeaHouseLaw" ∈ TW := TW_of (i := 24) (by decide +kernel) (by decide +kernel)
theorem lb_L_cell : ∀ (own : String) (idx : Nat), LkB own idx m_L_cell 2 := fun _ _ => ⟨iw_L, TW_of (i := 1150) (by decide +kernel) (by decide +kernel), ⟨by decide +kernel, by decide +kernel⟩, by decide +kernel, by decide⟩
theorem lk_L_7 : LkS "TeaHouseLaw" 7 m_L_cell 2 := ⟨TW_of (i := 1148) (by decide +kernel) (by decide +kernel), sm_L_cell, lb_L_cell _ _⟩
theorem im_X8_addKettle : Cond.instanceMethod m_X8_addKettle.1 ∈ TW := TW_of (i := 1156) (by decide +kernel) (by decide +kernel)
theorem sl_X8_addKettle : Cond.selects "TeaHouse" m_X8_addKettle.1 m_X8_addKettle.1 ∈ TW := TW_of (i := 1157) (by decide +kernel) (by decide +kernel)
theorem lb_X8_addKettle : ∀ (own : String) (idx : Nat), LkB own idx m_X8_addKettle 1 := fun _ _ => ⟨iw_X8, TW_of (i := 1158) (by decide +kernel) (by decide +kernel), ⟨by decide +kernel, by decide +kernel⟩, by decide +kernel, by decide⟩
theorem lk_L_13 : LkV "TeaHouseLaw" 13 "TeaHouse" m_X8_addKettle 1 := ⟨TW_of (i := 1155) (by decide +kernel) (by decide +kernel), im_X8_addKettle, sl_X8_addKettle, lb_X8_addKettle _ _⟩
theorem im_X8_fill : Cond.instanceMethod m_X8_fill.1 ∈ TW := TW_of (i := 1277) (by decide +kernel) (by decide +kernel)
theorem sl_X8_fill : Cond.selects "TeaHouse" m_X8_fill.1 m_X8_fill.1 ∈ TW := TW_of (i := 1278) (by decide +kernel) (by decide +kernel)
theorem lb_X8_fill : ∀ (own : String) (idx : Nat), LkB own idx m_X8_fill 2 := fun _ _ => ⟨iw_X8, TW_of (i := 1279) (by decide +kernel) (by decide +kernel), ⟨by decide +kernel, by decide +kernel⟩, by decide +kernel, by decide⟩
theorem lk_L_23 : LkV "TeaHouseLaw" 23 "TeaHouse" m_X8_fill 2 := ⟨TW_of (i := 1276) (by decide +kernel) (by decide +kernel), im_X8_fill, sl_X8_fill, lb_X8_fill _ _⟩
theorem kc_L_29 : Cond.constantFloat "TeaHouseLaw" 29 3334688768 ∈ TW := TW_of (i := 1282) (by decide +kernel) (by decide +kernel)
theorem kc_L_30 : Cond.constantFloat "TeaHouseLaw" 30 3332128768 ∈ TW := TW_of (i := 1137) (by decide +kernel) (by decide +kernel)
theorem kc_L_31 : Cond.constantFloat "TeaHouseLaw" 31 3323740160 ∈ TW := TW_of (i := 1283) (by decide +kernel) (by decide +kernel)
theorem im_X8_setBurner : Cond.instanceMethod m_X8_setBurner.1 ∈ TW := TW_of (i := 1288) (by decide +kernel) (by decide +kernel)
theorem sl_X8_setBurner : Cond.selects "TeaHouse" m_X8_setBurner.1 m_X8_setBurner.1 ∈ TW := TW_of (i := 1289) (by decide +kernel) (by decide +kernel)
theorem lb_X8_setBurner : ∀ (own : String) (idx : Nat), LkB own idx m_X8_setBurner 2 := fun _ _ => ⟨iw_X8, TW_of (i := 1290) (by decide +kernel) (by decide +kernel), ⟨by decide +kernel, by decide +kernel⟩, by decide +kernel, by decide⟩
theorem lk_L_32 : LkV "TeaHouseLaw" 32 "TeaHouse" m_X8_setBurner 2 := ⟨TW_of (i := 1287) (by decide +kernel) (by decide +kernel), im_X8_setBurner, sl_X8_setBurner, lb_X8_setBurner _ _⟩
theorem im_X8_order : Cond.instanceMethod m_X8_order.1 ∈ TW := TW_of (i := 1300) (by decide +kernel) (by decide +kernel)
theorem sl_X8_order : Cond.selects "TeaHouse" m_X8_order.1 m_X8_order.1 ∈ TW := TW_of (i := 1301) (by decide +kernel) (by decide +kernel)
theorem lb_X8_order : ∀ (own : String) (idx : Nat), LkB own idx m_X8_order 4 := fun _ _ => ⟨iw_X8, TW_of (i := 1302) (by decide +kernel) (by decide +kernel), ⟨by decide +kernel, by decide +kernel⟩, by decide +kernel, by decide⟩
theorem lk_L_36 : LkV "TeaHouseLaw" 36 "TeaHouse" m_X8_order 4 := ⟨TW_of (i := 1299) (by decide +kernel) (by decide +kernel), im_X8_order, sl_X8_order, lb_X8_order _ _⟩
theorem im_X8_cancel : Cond.instanceMethod m_X8_cancel.1 ∈ TW := TW_of (i := 1309) (by decide +kernel) (by decide +kernel)
theorem sl_X8_cancel : Cond.selects "TeaHouse" m_X8_cancel.1 m_X8_cancel.1 ∈ TW := TW_of (i := 1310) (by decide +kernel) (by decide +kernel)
theorem lb_X8_cancel : ∀ (own : String) (idx : Nat), LkB own idx m_X8_cancel 1 := fun _ _ => ⟨iw_X8, TW_of (i := 1311) (by decide +kernel) (by decide +kernel), ⟨by decide +kernel, by decide +kernel⟩, by decide +kernel, by decide⟩
theorem lk_L_40 : LkV "TeaHouseLaw" 40 "TeaHouse" m_X8_cancel 1 := ⟨TW_of (i := 1308) (by decide +kernel) (by decide +kernel), im_X8_cancel, sl_X8_cancel, lb_X8_cancel _ _⟩
theorem im_X8_serveNext : Cond.instanceMethod m_X8_serveNext.1 ∈ TW := TW_of (i := 1318) (by decide +kernel) (by decide +kernel)
theorem sl_X8_serveNext : Cond.selects "TeaHouse" m_X8_serveNext.1 m_X8_serveNext.1 ∈ TW := TW_of (i := 1319) (by decide +kernel) (by decide +kernel)
theorem lb_X8_serveNext : ∀ (own : String) (idx : Nat), LkB own idx m_X8_serveNext 0 := fun _ _ => ⟨iw_X8, TW_of (i := 1320) (by decide +kernel) (by decide +kernel), ⟨by decide +kernel, by decide +kernel⟩, by decide +kernel, by decide⟩
theorem lk_L_45 : LkV "TeaHouseLaw" 45 "TeaHouse" m_X8_serveNext 0 := ⟨TW_of (i := 1317) (by decide +kernel) (by decide +kernel), im_X8_serveNext, sl_X8_serveNext, lb_X8_serveNext _ _⟩
theorem im_X8_wash : Cond.instanceMethod m_X8_wash.1 ∈ TW := TW_of (i := 1325) (by decide +kernel) (by decide +kernel)
theorem sl_X8_wash : Cond.selects "TeaHouse" m_X8_wash.1 m_X8_wash.1 ∈ TW := TW_of (i := 1326) (by decide +kernel) (by decide +kernel)
theorem lb_X8_wash : ∀ (own : String) (idx : Nat), LkB own idx m_X8_wash 1 := fun _ _ => ⟨iw_X8, TW_of (i := 1327) (by decide +kernel) (by decide +kernel), ⟨by decide +kernel, by decide +kernel⟩, by decide +kernel, by decide⟩
theorem lk_L_49 : LkV "TeaHouseLaw" 49 "TeaHouse" m_X8_wash 1 := ⟨TW_of (i := 1324) (by decide +kernel) (by decide +kernel), im_X8_wash, sl_X8_wash, lb_X8_wash _ _⟩
theorem im_X8_sellSteam : Cond.instanceMethod m_X8_sellSteam.1 ∈ TW := TW_of (i := 1334) (by decide +kernel) (by decide +kernel)
theorem sl_X8_sellSteam : Cond.selects "TeaHouse" m_X8_sellSteam.1 m_X8_sellSteam.1 ∈ TW := TW_of (i := 1335) (by decide +kernel) (by decide +kernel)
theorem lb_X8_sellSteam : ∀ (own : String) (idx : Nat), LkB own idx m_X8_sellSteam 1 := fun _ _ => ⟨iw_X8, TW_of (i := 1336) (by decide +kernel) (by decide +kernel), ⟨by decide +kernel, by decide +kernel⟩, by decide +kernel, by decide⟩
theorem lk_L_52 : LkV "TeaHouseLaw" 52 "TeaHouse" m_X8_sellSteam 1 := ⟨TW_of (i := 1333) (by decide +kernel) (by decide +kernel), im_X8_sellSteam, sl_X8_sellSteam, lb_X8_sellSteam _ _⟩
theorem im_X8_setCupPrice : Cond.instanceMethod m_X8_setCupPrice.1 ∈ TW := TW_of (i := 1343) (by decide +kernel) (by decide +kernel)
theorem sl_X8_setCupPrice : Cond.selects "TeaHouse" m_X8_setCupPrice.1 m_X8_setCupPrice.1 ∈ TW := TW_of (i := 1344) (by decide +kernel) (by decide +kernel)
theorem lb_X8_setCupPrice : ∀ (own : String) (idx : Nat), LkB own idx m_X8_setCupPrice 1 := fun _ _ => ⟨iw_X8, TW_of (i := 1345) (by decide +kernel) (by decide +kernel), ⟨by decide +kernel, by decide +kernel⟩, by decide +kernel, by decide⟩
theorem lk_L_56 : LkV "TeaHouseLaw" 56 "TeaHouse" m_X8_setCupPrice 1 := ⟨TW_of (i := 1342) (by decide +kernel) (by decide +kernel), im_X8_setCupPrice, sl_X8_setCupPrice, lb_X8_setCupPrice _ _⟩
theorem im_X8_setSteamPrice : Cond.instanceMethod m_X8_setSteamPrice.1 ∈ TW := TW_of (i := 1352) (by decide +kernel) (by decide +kernel)
theorem sl_X8_setSteamPrice : Cond.selects "TeaHouse" m_X8_setSteamPrice.1 m_X8_setSteamPrice.1 ∈ TW := TW_of (i := 1353) (by decide +kernel) (by decide +kernel)
theorem lb_X8_setSteamPrice : ∀ (own : String) (idx : Nat), LkB own idx m_X8_setSteamPrice 1 := fun _ _ => ⟨iw_X8, TW_of (i := 1354) (by decide +kernel) (by decide +kernel), ⟨by decide +kernel, by decide +kernel⟩, by decide +kernel, by decide⟩
theorem lk_L_59 : LkV "TeaHouseLaw" 59 "TeaHouse" m_X8_setSteamPrice 1 := ⟨TW_of (i := 1351) (by decide +kernel) (by decide +kernel), im_X8_setSteamPrice, sl_X8_setSteamPrice, lb_X8_setSteamPrice _ _⟩
theorem im_X8_pass : Cond.instanceMethod m_X8_pass.1 ∈ TW := TW_of (i := 1376) (by decide +kernel) (by decide +kernel)
theorem sl_X8_pass : Cond.selects "TeaHouse" m_X8_pass.1 m_X8_pass.1 ∈ TW := TW_of (i := 1377) (by decide +kernel) (by decide +kernel)
theorem lb_X8_pass : ∀ (own : String) (idx : Nat), LkB own idx m_X8_pass 1 := fun _ _ => ⟨iw_X8, TW_of (i := 1378) (by decide +kernel) (by decide +kernel), ⟨by decide +kernel, by decide +kernel⟩, by decide +kernel, by decide⟩
theorem lk_L_62 : LkV "TeaHouseLaw" 62 "TeaHouse" m_X8_pass 1 := ⟨TW_of (i := 1375) (by decide +kernel) (by decide +kernel), im_X8_pass, sl_X8_pass, lb_X8_pass _ _⟩
theorem im_X8_closeNight : Cond.instanceMethod m_X8_closeNight.1 ∈ TW := TW_of (i := 1367) (by decide +kernel) (by decide +kernel)
theorem sl_X8_closeNight : Cond.selects "TeaHouse" m_X8_closeNight.1 m_X8_closeNight.1 ∈ TW := TW_of (i := 1368) (by decide +kernel) (by decide +kernel)
theorem lb_X8_closeNight : ∀ (own : String) (idx : Nat), LkB own idx m_X8_closeNight 0 := fun _ _ => ⟨iw_X8, TW_of (i := 1369) (by decide +kernel) (by decide +kernel), ⟨by decide +kernel, by decide +kernel⟩, by decide +kernel, by decide⟩
theorem lk_L_65 : LkV "TeaHouseLaw" 65 "TeaHouse" m_X8_closeNight 0 := ⟨TW_of (i := 1366) (by decide +kernel) (by decide +kernel), im_X8_closeNight, sl_X8_closeNight, lb_X8_closeNight _ _⟩
theorem im_X8_minutesUntilBoiling : Cond.instanceMethod m_X8_minutesUntilBoiling.1 ∈ TW := TW_of (i := 1095) (by decide +kernel) (by decide +kernel)
theorem sl_X8_minutesUntilBoiling : Cond.selects "TeaHouse" m_X8_minutesUntilBoiling.1 m_X8_minutesUntilBoiling.1 ∈ TW := TW_of (i := 1096) (by decide +kernel) (by decide +kernel)
theorem lb_X8_minutesUntilBoiling : ∀ (own : String) (idx : Nat), LkB own idx m_X8_minutesUntilBoiling 1 := fun _ _ => ⟨iw_X8, TW_of (i := 1097) (by decide +kernel) (by decide +kernel), ⟨by decide +kernel, by decide +kernel⟩, by decide +kernel, by decide⟩
theorem lk_L_69 : LkV "TeaHouseLaw" 69 "TeaHouse" m_X8_minutesUntilBoiling 1 := ⟨TW_of (i := 1094) (by decide +kernel) (by decide +kernel), im_X8_minutesUntilBoiling, sl_X8_minutesUntilBoiling, lb_X8_minutesUntilBoiling _ _⟩
theorem im_X8_minutesUntilBoilingByMinutes : Cond.instanceMethod m_X8_minutesUntilBoilingByMinutes.1 ∈ TW := TW_of (i := 1102) (by decide +kernel) (by decide +kernel)
theorem sl_X8_minutesUntilBoilingByMinutes : Cond.selects "TeaHouse" m_X8_minutesUntilBoilingByMinutes.1 m_X8_minutesUntilBoilingByMinutes.1 ∈ TW := TW_of (i := 1103) (by decide +kernel) (by decide +kernel)
theorem lb_X8_minutesUntilBoilingByMinutes : ∀ (own : String) (idx : Nat), LkB own idx m_X8_minutesUntilBoilingByMinutes 1 := fun _ _ => ⟨iw_X8, TW_of (i := 1104) (by decide +kernel) (by decide +kernel), ⟨by decide +kernel, by decide +kernel⟩, by decide +kernel, by decide⟩
theorem lk_L_72 : LkV "TeaHouseLaw" 72 "TeaHouse" m_X8_minutesUntilBoilingByMinutes 1 := ⟨TW_of (i := 1101) (by decide +kernel) (by decide +kernel), im_X8_minutesUntilBoilingByMinutes, sl_X8_minutesUntilBoilingByMinutes, lb_X8_minutesUntilBoilingByMinutes _ _⟩
theorem im_X8_kettleByTemperature : Cond.instanceMethod m_X8_kettleByTemperature.1 ∈ TW := TW_of (i := 445) (by decide +kernel) (by decide +kernel)
theorem sl_X8_kettleByTemperature : Cond.selects "TeaHouse" m_X8_kettleByTemperature.1 m_X8_kettleByTemperature.1 ∈ TW := TW_of (i := 446) (by decide +kernel) (by decide +kernel)
theorem lb_X8_kettleByTemperature : ∀ (own : String) (idx : Nat), LkB own idx m_X8_kettleByTemperature 1 := fun _ _ => ⟨iw_X8, TW_of (i := 447) (by decide +kernel) (by decide +kernel), ⟨by decide +kernel, by decide +kernel⟩, by decide +kernel, by decide⟩
theorem lk_L_75 : LkV "TeaHouseLaw" 75 "TeaHouse" m_X8_kettleByTemperature 1 := ⟨TW_of (i := 444) (by decide +kernel) (by decide +kernel), im_X8_kettleByTemperature, sl_X8_kettleByTemperature, lb_X8_kettleByTemperature _ _⟩
theorem im_X8_orderAt : Cond.instanceMethod m_X8_orderAt.1 ∈ TW := TW_of (i := 484) (by decide +kernel) (by decide +kernel)
theorem sl_X8_orderAt : Cond.selects "TeaHouse" m_X8_orderAt.1 m_X8_orderAt.1 ∈ TW := TW_of (i := 485) (by decide +kernel) (by decide +kernel)
theorem lb_X8_orderAt : ∀ (own : String) (idx : Nat), LkB own idx m_X8_orderAt 1 := fun _ _ => ⟨iw_X8, TW_of (i := 486) (by decide +kernel) (by decide +kernel), ⟨by decide +kernel, by decide +kernel⟩, by decide +kernel, by decide⟩
theorem lk_L_78 : LkV "TeaHouseLaw" 78 "TeaHouse" m_X8_orderAt 1 := ⟨TW_of (i := 483) (by decide +kernel) (by decide +kernel), im_X8_orderAt, sl_X8_orderAt, lb_X8_orderAt _ _⟩
theorem im_X8_kettleFor : Cond.instanceMethod m_X8_kettleFor.1 ∈ TW := TW_of (i := 1115) (by decide +kernel) (by decide +kernel)
theorem sl_X8_kettleFor : Cond.selects "TeaHouse" m_X8_kettleFor.1 m_X8_kettleFor.1 ∈ TW := TW_of (i := 1116) (by decide +kernel) (by decide +kernel)
theorem lb_X8_kettleFor : ∀ (own : String) (idx : Nat), LkB own idx m_X8_kettleFor 1 := fun _ _ => ⟨iw_X8, TW_of (i := 1117) (by decide +kernel) (by decide +kernel), ⟨by decide +kernel, by decide +kernel⟩, by decide +kernel, by decide⟩
theorem lk_L_81 : LkV "TeaHouseLaw" 81 "TeaHouse" m_X8_kettleFor 1 := ⟨TW_of (i := 1114) (by decide +kernel) (by decide +kernel), im_X8_kettleFor, sl_X8_kettleFor, lb_X8_kettleFor _ _⟩
theorem im_X8_nightByIncome : Cond.instanceMethod m_X8_nightByIncome.1 ∈ TW := TW_of (i := 598) (by decide +kernel) (by decide +kernel)
theorem sl_X8_nightByIncome : Cond.selects "TeaHouse" m_X8_nightByIncome.1 m_X8_nightByIncome.1 ∈ TW := TW_of (i := 599) (by decide +kernel) (by decide +kernel)
theorem lb_X8_nightByIncome : ∀ (own : String) (idx : Nat), LkB own idx m_X8_nightByIncome 1 := fun _ _ => ⟨iw_X8, TW_of (i := 600) (by decide +kernel) (by decide +kernel), ⟨by decide +kernel, by decide +kernel⟩, by decide +kernel, by decide⟩
theorem lk_L_84 : LkV "TeaHouseLaw" 84 "TeaHouse" m_X8_nightByIncome 1 := ⟨TW_of (i := 597) (by decide +kernel) (by decide +kernel), im_X8_nightByIncome, sl_X8_nightByIncome, lb_X8_nightByIncome _ _⟩
theorem im_X8_minutesUntilSuitable : Cond.instanceMethod m_X8_minutesUntilSuitable.1 ∈ TW := TW_of (i := 1126) (by decide +kernel) (by decide +kernel)
theorem sl_X8_minutesUntilSuitable : Cond.selects "TeaHouse" m_X8_minutesUntilSuitable.1 m_X8_minutesUntilSuitable.1 ∈ TW := TW_of (i := 1127) (by decide +kernel) (by decide +kernel)
theorem lb_X8_minutesUntilSuitable : ∀ (own : String) (idx : Nat), LkB own idx m_X8_minutesUntilSuitable 1 := fun _ _ => ⟨iw_X8, TW_of (i := 1128) (by decide +kernel) (by decide +kernel), ⟨by decide +kernel, by decide +kernel⟩, by decide +kernel, by decide⟩
theorem lk_L_87 : LkV "TeaHouseLaw" 87 "TeaHouse" m_X8_minutesUntilSuitable 1 := ⟨TW_of (i := 1125) (by decide +kernel) (by decide +kernel), im_X8_minutesUntilSuitable, sl_X8_minutesUntilSuitable, lb_X8_minutesUntilSuitable _ _⟩
theorem im_X8_greatestIncome : Cond.instanceMethod m_X8_greatestIncome.1 ∈ TW := TW_of (i := 610) (by decide +kernel) (by decide +kernel)
theorem sl_X8_greatestIncome : Cond.selects "TeaHouse" m_X8_greatestIncome.1 m_X8_greatestIncome.1 ∈ TW := TW_of (i := 611) (by decide +kernel) (by decide +kernel)
theorem lb_X8_greatestIncome : ∀ (own : String) (idx : Nat), LkB own idx m_X8_greatestIncome 1 := fun _ _ => ⟨iw_X8, TW_of (i := 612) (by decide +kernel) (by decide +kernel), ⟨by decide +kernel, by decide +kernel⟩, by decide +kernel, by decide⟩
theorem lk_L_90 : LkV "TeaHouseLaw" 90 "TeaHouse" m_X8_greatestIncome 1 := ⟨TW_of (i := 609) (by decide +kernel) (by decide +kernel), im_X8_greatestIncome, sl_X8_greatestIncome, lb_X8_greatestIncome _ _⟩
theorem kc_L_93 : Cond.constantFloat "TeaHouseLaw" 93 3337248768 ∈ TW := TW_of (i := 1138) (by decide +kernel) (by decide +kernel)
theorem im_X8_greatestIncomeBySums : Cond.instanceMethod m_X8_greatestIncomeBySums.1 ∈ TW := TW_of (i := 643) (by decide +kernel) (by decide +kernel)
theorem sl_X8_greatestIncomeBySums : Cond.selects "TeaHouse" m_X8_greatestIncomeBySums.1 m_X8_greatestIncomeBySums.1 ∈ TW := TW_of (i := 644) (by decide +kernel) (by decide +kernel)
theorem lb_X8_greatestIncomeBySums : ∀ (own : String) (idx : Nat), LkB own idx m_X8_greatestIncomeBySums 1 := fun _ _ => ⟨iw_X8, TW_of (i := 645) (by decide +kernel) (by decide +kernel), ⟨by decide +kernel, by decide +kernel⟩, by decide +kernel, by decide⟩
theorem lk_L_94 : LkV "TeaHouseLaw" 94 "TeaHouse" m_X8_greatestIncomeBySums 1 := ⟨TW_of (i := 642) (by decide +kernel) (by decide +kernel), im_X8_greatestIncomeBySums, sl_X8_greatestIncomeBySums, lb_X8_greatestIncomeBySums _ _⟩
theorem sm_L_some : Cond.static m_L_some.1 ∈ TW := TW_of (i := 1146) (by decide +kernel) (by decide +kernel)
theorem lb_L_some : ∀ (own : String) (idx : Nat), LkB own idx m_L_some 3 := fun _ _ => ⟨iw_L, TW_of (i := 1147) (by decide +kernel) (by decide +kernel), ⟨by decide +kernel, by decide +kernel⟩, by decide +kernel, by decide⟩
theorem lk_L_97 : LkS "TeaHouseLaw" 97 m_L_some 3 := ⟨TW_of (i := 1145) (by decide +kernel) (by decide +kernel), sm_L_some, lb_L_some _ _⟩
theorem sm_L_acts : Cond.static m_L_acts.1 ∈ TW := TW_of (i := 1294) (by decide +kernel) (by decide +kernel)
theorem lb_L_acts : ∀ (own : String) (idx : Nat), LkB own idx m_L_acts 3 := fun _ _ => ⟨iw_L, TW_of (i := 1295) (by decide +kernel) (by decide +kernel), ⟨by decide +kernel, by decide +kernel⟩, by decide +kernel, by decide⟩
theorem lk_L_110 : LkS "TeaHouseLaw" 110 m_L_acts 3 := ⟨TW_of (i := 1293) (by decide +kernel) (by decide +kernel), sm_L_acts, lb_L_acts _ _⟩
theorem im_X8_kettleCount : Cond.instanceMethod m_X8_kettleCount.1 ∈ TW := TW_of (i := 327) (by decide +kernel) (by decide +kernel)
theorem sl_X8_kettleCount : Cond.selects "TeaHouse" m_X8_kettleCount.1 m_X8_kettleCount.1 ∈ TW := TW_of (i := 328) (by decide +kernel) (by decide +kernel)
theorem lb_X8_kettleCount : ∀ (own : String) (idx : Nat), LkB own idx m_X8_kettleCount 0 := fun _ _ => ⟨iw_X8, TW_of (i := 329) (by decide +kernel) (by decide +kernel), ⟨by decide +kernel, by decide +kernel⟩, by decide +kernel, by decide⟩
theorem lk_L_114 : LkV "TeaHouseLaw" 114 "TeaHouse" m_X8_kettleCount 0 := ⟨TW_of (i := 326) (by decide +kernel) (by decide +kernel), im_X8_kettleCount, sl_X8_kettleCount, lb_X8_kettleCount _ _⟩
theorem im_X8_waitingCount : Cond.instanceMethod m_X8_waitingCount.1 ∈ TW := TW_of (i := 480) (by decide +kernel) (by decide +kernel)
theorem sl_X8_waitingCount : Cond.selects "TeaHouse" m_X8_waitingCount.1 m_X8_waitingCount.1 ∈ TW := TW_of (i := 481) (by decide +kernel) (by decide +kernel)
theorem lb_X8_waitingCount : ∀ (own : String) (idx : Nat), LkB own idx m_X8_waitingCount 0 := fun _ _ => ⟨iw_X8, TW_of (i := 482) (by decide +kernel) (by decide +kernel), ⟨by decide +kernel, by decide +kernel⟩, by decide +kernel, by decide⟩
theorem lk_L_117 : LkV "TeaHouseLaw" 117 "TeaHouse" m_X8_waitingCount 0 := ⟨TW_of (i := 479) (by decide +kernel) (by decide +kernel), im_X8_waitingCount, sl_X8_waitingCount, lb_X8_waitingCount _ _⟩
theorem im_X8_setAttendant : Cond.instanceMethod m_X8_setAttendant.1 ∈ TW := TW_of (i := 1358) (by decide +kernel) (by decide +kernel)
theorem sl_X8_setAttendant : Cond.selects "TeaHouse" m_X8_setAttendant.1 m_X8_setAttendant.1 ∈ TW := TW_of (i := 1359) (by decide +kernel) (by decide +kernel)
theorem lb_X8_setAttendant : ∀ (own : String) (idx : Nat), LkB own idx m_X8_setAttendant 1 := fun _ _ => ⟨iw_X8, TW_of (i := 1360) (by decide +kernel) (by decide +kernel), ⟨by decide +kernel, by decide +kernel⟩, by decide +kernel, by decide⟩
theorem lk_L_137 : LkV "TeaHouseLaw" 137 "TeaHouse" m_X8_setAttendant 1 := ⟨TW_of (i := 1357) (by decide +kernel) (by decide +kernel), im_X8_setAttendant, sl_X8_setAttendant, lb_X8_setAttendant _ _⟩
theorem kc_L_146 : Cond.constantFloat "TeaHouseLaw" 146 1090519040 ∈ TW := TW_of (i := 1384) (by decide +kernel) (by decide +kernel)
theorem im_X8_formatOrder : Cond.instanceMethod m_X8_formatOrder.1 ∈ TW := TW_of (i := 1389) (by decide +kernel) (by decide +kernel)
theorem sl_X8_formatOrder : Cond.selects "TeaHouse" m_X8_formatOrder.1 m_X8_formatOrder.1 ∈ TW := TW_of (i := 1390) (by decide +kernel) (by decide +kernel)
theorem lb_X8_formatOrder : ∀ (own : String) (idx : Nat), LkB own idx m_X8_formatOrder 1 := fun _ _ => ⟨iw_X8, TW_of (i := 1391) (by decide +kernel) (by decide +kernel), ⟨by decide +kernel, by decide +kernel⟩, by decide +kernel, by decide⟩
theorem lk_L_147 : LkV "TeaHouseLaw" 147 "TeaHouse" m_X8_formatOrder 1 := ⟨TW_of (i := 1388) (by decide +kernel) (by decide +kernel), im_X8_formatOrder, sl_X8_formatOrder, lb_X8_formatOrder _ _⟩
theorem im_X8_lineChar : Cond.instanceMethod m_X8_lineChar.1 ∈ TW := TW_of (i := 1402) (by decide +kernel) (by decide +kernel)
theorem sl_X8_lineChar : Cond.selects "TeaHouse" m_X8_lineChar.1 m_X8_lineChar.1 ∈ TW := TW_of (i := 1403) (by decide +kernel) (by decide +kernel)
theorem lb_X8_lineChar : ∀ (own : String) (idx : Nat), LkB own idx m_X8_lineChar 1 := fun _ _ => ⟨iw_X8, TW_of (i := 1404) (by decide +kernel) (by decide +kernel), ⟨by decide +kernel, by decide +kernel⟩, by decide +kernel, by decide⟩
theorem lk_L_150 : LkV "TeaHouseLaw" 150 "TeaHouse" m_X8_lineChar 1 := ⟨TW_of (i := 1401) (by decide +kernel) (by decide +kernel), im_X8_lineChar, sl_X8_lineChar, lb_X8_lineChar _ _⟩
theorem im_X8_volume : Cond.instanceMethod m_X8_volume.1 ∈ TW := TW_of (i := 418) (by decide +kernel) (by decide +kernel)
theorem sl_X8_volume : Cond.selects "TeaHouse" m_X8_volume.1 m_X8_volume.1 ∈ TW := TW_of (i := 419) (by decide +kernel) (by decide +kernel)
theorem lb_X8_volume : ∀ (own : String) (idx : Nat), LkB own idx m_X8_volume 1 := fun _ _ => ⟨iw_X8, TW_of (i := 420) (by decide +kernel) (by decide +kernel), ⟨by decide +kernel, by decide +kernel⟩, by decide +kernel, by decide⟩
theorem lk_L_154 : LkV "TeaHouseLaw" 154 "TeaHouse" m_X8_volume 1 := ⟨TW_of (i := 417) (by decide +kernel) (by decide +kernel), im_X8_volume, sl_X8_volume, lb_X8_volume _ _⟩
theorem kc_L_157 : Cond.constantFloat "TeaHouseLaw" 157 1048576000 ∈ TW := TW_of (i := 1419) (by decide +kernel) (by decide +kernel)
theorem im_X8_temperature : Cond.instanceMethod m_X8_temperature.1 ∈ TW := TW_of (i := 422) (by decide +kernel) (by decide +kernel)
theorem sl_X8_temperature : Cond.selects "TeaHouse" m_X8_temperature.1 m_X8_temperature.1 ∈ TW := TW_of (i := 423) (by decide +kernel) (by decide +kernel)
theorem lb_X8_temperature : ∀ (own : String) (idx : Nat), LkB own idx m_X8_temperature 1 := fun _ _ => ⟨iw_X8, TW_of (i := 424) (by decide +kernel) (by decide +kernel), ⟨by decide +kernel, by decide +kernel⟩, by decide +kernel, by decide⟩
theorem lk_L_158 : LkV "TeaHouseLaw" 158 "TeaHouse" m_X8_temperature 1 := ⟨TW_of (i := 421) (by decide +kernel) (by decide +kernel), im_X8_temperature, sl_X8_temperature, lb_X8_temperature _ _⟩
theorem lk_L_161 : LkV "TeaHouseLaw" 161 "java/lang/String" m_J0_length_8abf5 0 := ⟨TW_of (i := 1423) (by decide +kernel) (by decide +kernel), im_J0_length_8abf5, sl_J0_length_8abf5, lb_J0_length_8abf5 _ _⟩
theorem im_J0_charAt_5068e : Cond.instanceMethod m_J0_charAt_5068e.1 ∈ TW := TW_of (i := 1425) (by decide +kernel) (by decide +kernel)
theorem sl_J0_charAt_5068e : Cond.selects "java/lang/String" m_J0_charAt_5068e.1 m_J0_charAt_5068e.1 ∈ TW := TW_of (i := 1426) (by decide +kernel) (by decide +kernel)
theorem lb_J0_charAt_5068e : ∀ (own : String) (idx : Nat), LkB own idx m_J0_charAt_5068e 1 := fun _ _ => ⟨iw_J0, TW_of (i := 1427) (by decide +kernel) (by decide +kernel), ⟨by decide +kernel, by decide +kernel⟩, by decide +kernel, by decide⟩
theorem lk_L_166 : LkV "TeaHouseLaw" 166 "java/lang/String" m_J0_charAt_5068e 1 := ⟨TW_of (i := 1424) (by decide +kernel) (by decide +kernel), im_J0_charAt_5068e, sl_J0_charAt_5068e, lb_J0_charAt_5068e _ _⟩
theorem nw_L_14 : NW "TeaHouseLaw" 14 9 12 := ⟨_, rfl, by decide, rfl, TW_of (i := 58) (by decide +kernel) (by decide +kernel), TW_of (i := 59) (by decide +kernel) (by decide +kernel), TW_of (i := 25) (by decide +kernel) (by decide +kernel), nw_def 9 12 (by decide +kernel)⟩
theorem im_X8_init : Cond.instanceMethod m_X8_init.1 ∈ TW := TW_of (i := 61) (by decide +kernel) (by decide +kernel)
theorem lb_X8_init : ∀ (own : String) (idx : Nat), LkB own idx m_X8_init 0 := fun _ _ => ⟨iw_X8, TW_of (i := 62) (by decide +kernel) (by decide +kernel), ⟨by decide +kernel, by decide +kernel⟩, by decide +kernel, by decide⟩
theorem lk_L_169 : LkI "TeaHouseLaw" 169 m_X8_init 0 := ⟨TW_of (i := 60) (by decide +kernel) (by decide +kernel), im_X8_init, rfl, rfl, lb_X8_init _ _⟩
theorem sm_L_build : Cond.static m_L_build.1 ∈ TW := TW_of (i := 1143) (by decide +kernel) (by decide +kernel)
theorem lb_L_build : ∀ (own : String) (idx : Nat), LkB own idx m_L_build 2 := fun _ _ => ⟨iw_L, TW_of (i := 1144) (by decide +kernel) (by decide +kernel), ⟨by decide +kernel, by decide +kernel⟩, by decide +kernel, by decide⟩
theorem lk_L_170 : LkS "TeaHouseLaw" 170 m_L_build 2 := ⟨TW_of (i := 1142) (by decide +kernel) (by decide +kernel), sm_L_build, lb_L_build _ _⟩
theorem im_X8_nightCount : Cond.instanceMethod m_X8_nightCount.1 ∈ TW := TW_of (i := 589) (by decide +kernel) (by decide +kernel)
theorem sl_X8_nightCount : Cond.selects "TeaHouse" m_X8_nightCount.1 m_X8_nightCount.1 ∈ TW := TW_of (i := 590) (by decide +kernel) (by decide +kernel)
theorem lb_X8_nightCount : ∀ (own : String) (idx : Nat), LkB own idx m_X8_nightCount 0 := fun _ _ => ⟨iw_X8, TW_of (i := 591) (by decide +kernel) (by decide +kernel), ⟨by decide +kernel, by decide +kernel⟩, by decide +kernel, by decide⟩
theorem lk_L_174 : LkV "TeaHouseLaw" 174 "TeaHouse" m_X8_nightCount 0 := ⟨TW_of (i := 588) (by decide +kernel) (by decide +kernel), im_X8_nightCount, sl_X8_nightCount, lb_X8_nightCount _ _⟩
theorem im_X8_whistlesHeard : Cond.instanceMethod m_X8_whistlesHeard.1 ∈ TW := TW_of (i := 667) (by decide +kernel) (by decide +kernel)
theorem sl_X8_whistlesHeard : Cond.selects "TeaHouse" m_X8_whistlesHeard.1 m_X8_whistlesHeard.1 ∈ TW := TW_of (i := 668) (by decide +kernel) (by decide +kernel)
theorem lb_X8_whistlesHeard : ∀ (own : String) (idx : Nat), LkB own idx m_X8_whistlesHeard 0 := fun _ _ => ⟨iw_X8, TW_of (i := 669) (by decide +kernel) (by decide +kernel), ⟨by decide +kernel, by decide +kernel⟩, by decide +kernel, by decide⟩
theorem lk_L_177 : LkV "TeaHouseLaw" 177 "TeaHouse" m_X8_whistlesHeard 0 := ⟨TW_of (i := 666) (by decide +kernel) (by decide +kernel), im_X8_whistlesHeard, sl_X8_whistlesHeard, lb_X8_whistlesHeard _ _⟩
theorem im_X8_whistlesLost : Cond.instanceMethod m_X8_whistlesLost.1 ∈ TW := TW_of (i := 671) (by decide +kernel) (by decide +kernel)
theorem sl_X8_whistlesLost : Cond.selects "TeaHouse" m_X8_whistlesLost.1 m_X8_whistlesLost.1 ∈ TW := TW_of (i := 672) (by decide +kernel) (by decide +kernel)
theorem lb_X8_whistlesLost : ∀ (own : String) (idx : Nat), LkB own idx m_X8_whistlesLost 0 := fun _ _ => ⟨iw_X8, TW_of (i := 673) (by decide +kernel) (by decide +kernel), ⟨by decide +kernel, by decide +kernel⟩, by decide +kernel, by decide⟩
theorem lk_L_180 : LkV "TeaHouseLaw" 180 "TeaHouse" m_X8_whistlesLost 0 := ⟨TW_of (i := 670) (by decide +kernel) (by decide +kernel), im_X8_whistlesLost, sl_X8_whistlesLost, lb_X8_whistlesLost _ _⟩
theorem im_X8_income : Cond.instanceMethod m_X8_income.1 ∈ TW := TW_of (i := 585) (by decide +kernel) (by decide +kernel)
theorem sl_X8_income : Cond.selects "TeaHouse" m_X8_income.1 m_X8_income.1 ∈ TW := TW_of (i := 586) (by decide +kernel) (by decide +kernel)
theorem lb_X8_income : ∀ (own : String) (idx : Nat), LkB own idx m_X8_income 0 := fun _ _ => ⟨iw_X8, TW_of (i := 587) (by decide +kernel) (by decide +kernel), ⟨by decide +kernel, by decide +kernel⟩, by decide +kernel, by decide⟩
theorem lk_L_183 : LkV "TeaHouseLaw" 183 "TeaHouse" m_X8_income 0 := ⟨TW_of (i := 584) (by decide +kernel) (by decide +kernel), im_X8_income, sl_X8_income, lb_X8_income _ _⟩
theorem im_X8_burner : Cond.instanceMethod m_X8_burner.1 ∈ TW := TW_of (i := 437) (by decide +kernel) (by decide +kernel)
theorem sl_X8_burner : Cond.selects "TeaHouse" m_X8_burner.1 m_X8_burner.1 ∈ TW := TW_of (i := 438) (by decide +kernel) (by decide +kernel)
theorem lb_X8_burner : ∀ (own : String) (idx : Nat), LkB own idx m_X8_burner 1 := fun _ _ => ⟨iw_X8, TW_of (i := 439) (by decide +kernel) (by decide +kernel), ⟨by decide +kernel, by decide +kernel⟩, by decide +kernel, by decide⟩
theorem lk_L_186 : LkV "TeaHouseLaw" 186 "TeaHouse" m_X8_burner 1 := ⟨TW_of (i := 436) (by decide +kernel) (by decide +kernel), im_X8_burner, sl_X8_burner, lb_X8_burner _ _⟩
theorem im_X8_capacity : Cond.instanceMethod m_X8_capacity.1 ∈ TW := TW_of (i := 331) (by decide +kernel) (by decide +kernel)
theorem sl_X8_capacity : Cond.selects "TeaHouse" m_X8_capacity.1 m_X8_capacity.1 ∈ TW := TW_of (i := 332) (by decide +kernel) (by decide +kernel)
theorem lb_X8_capacity : ∀ (own : String) (idx : Nat), LkB own idx m_X8_capacity 1 := fun _ _ => ⟨iw_X8, TW_of (i := 333) (by decide +kernel) (by decide +kernel), ⟨by decide +kernel, by decide +kernel⟩, by decide +kernel, by decide⟩
theorem lk_L_189 : LkV "TeaHouseLaw" 189 "TeaHouse" m_X8_capacity 1 := ⟨TW_of (i := 330) (by decide +kernel) (by decide +kernel), im_X8_capacity, sl_X8_capacity, lb_X8_capacity _ _⟩
theorem kc_L_192 : Cond.constantFloat "TeaHouseLaw" 192 1101004800 ∈ TW := TW_of (i := 1461) (by decide +kernel) (by decide +kernel)
theorem kc_L_193 : Cond.constantFloat "TeaHouseLaw" 193 1120403456 ∈ TW := TW_of (i := 1462) (by decide +kernel) (by decide +kernel)
theorem im_X8_temperatureBits : Cond.instanceMethod m_X8_temperatureBits.1 ∈ TW := TW_of (i := 430) (by decide +kernel) (by decide +kernel)
theorem sl_X8_temperatureBits : Cond.selects "TeaHouse" m_X8_temperatureBits.1 m_X8_temperatureBits.1 ∈ TW := TW_of (i := 431) (by decide +kernel) (by decide +kernel)
theorem lb_X8_temperatureBits : ∀ (own : String) (idx : Nat), LkB own idx m_X8_temperatureBits 1 := fun _ _ => ⟨iw_X8, TW_of (i := 432) (by decide +kernel) (by decide +kernel), ⟨by decide +kernel, by decide +kernel⟩, by decide +kernel, by decide⟩
theorem lk_L_194 : LkV "TeaHouseLaw" 194 "TeaHouse" m_X8_temperatureBits 1 := ⟨TW_of (i := 429) (by decide +kernel) (by decide +kernel), im_X8_temperatureBits, sl_X8_temperatureBits, lb_X8_temperatureBits _ _⟩
theorem sm_Jxf58ca_floatToIntBits_5c35a : Cond.static m_Jxf58ca_floatToIntBits_5c35a.1 ∈ TW := TW_of (i := 1440) (by decide +kernel) (by decide +kernel)
theorem lb_Jxf58ca_floatToIntBits_5c35a : ∀ (own : String) (idx : Nat), LkB own idx m_Jxf58ca_floatToIntBits_5c35a 1 := fun _ _ => ⟨iw_Jxf58ca, TW_of (i := 1441) (by decide +kernel) (by decide +kernel), ⟨by decide +kernel, by decide +kernel⟩, by decide +kernel, by decide⟩
theorem lk_L_197 : LkS "TeaHouseLaw" 197 m_Jxf58ca_floatToIntBits_5c35a 1 := ⟨TW_of (i := 1439) (by decide +kernel) (by decide +kernel), sm_Jxf58ca_floatToIntBits_5c35a, lb_Jxf58ca_floatToIntBits_5c35a _ _⟩
theorem sm_L_eighths : Cond.static m_L_eighths.1 ∈ TW := TW_of (i := 1382) (by decide +kernel) (by decide +kernel)
theorem lb_L_eighths : ∀ (own : String) (idx : Nat), LkB own idx m_L_eighths 1 := fun _ _ => ⟨iw_L, TW_of (i := 1383) (by decide +kernel) (by decide +kernel), ⟨by decide +kernel, by decide +kernel⟩, by decide +kernel, by decide⟩
theorem lk_L_203 : LkS "TeaHouseLaw" 203 m_L_eighths 1 := ⟨TW_of (i := 1381) (by decide +kernel) (by decide +kernel), sm_L_eighths, lb_L_eighths _ _⟩
theorem mm_L_206 : Cond.methodLink "TeaHouseLaw" 206 Lib.Math.min.name ∈ TW := TW_of (i := 1455) (by decide +kernel) (by decide +kernel)
theorem im_X8_formatKettle : Cond.instanceMethod m_X8_formatKettle.1 ∈ TW := TW_of (i := 769) (by decide +kernel) (by decide +kernel)
theorem sl_X8_formatKettle : Cond.selects "TeaHouse" m_X8_formatKettle.1 m_X8_formatKettle.1 ∈ TW := TW_of (i := 770) (by decide +kernel) (by decide +kernel)
theorem lb_X8_formatKettle : ∀ (own : String) (idx : Nat), LkB own idx m_X8_formatKettle 1 := fun _ _ => ⟨iw_X8, TW_of (i := 771) (by decide +kernel) (by decide +kernel), ⟨by decide +kernel, by decide +kernel⟩, by decide +kernel, by decide⟩
theorem lk_L_215 : LkV "TeaHouseLaw" 215 "TeaHouse" m_X8_formatKettle 1 := ⟨TW_of (i := 768) (by decide +kernel) (by decide +kernel), im_X8_formatKettle, sl_X8_formatKettle, lb_X8_formatKettle _ _⟩
theorem nw_L_218 : NW "TeaHouseLaw" 218 1 4 := ⟨_, rfl, by decide, rfl, TW_of (i := 1456) (by decide +kernel) (by decide +kernel), TW_of (i := 257) (by decide +kernel) (by decide +kernel), TW_of (i := 32) (by decide +kernel) (by decide +kernel), nw_def 1 4 (by decide +kernel)⟩
theorem lk_L_220 : LkI "TeaHouseLaw" 220 m_J4_init_da8c8 0 := ⟨TW_of (i := 1457) (by decide +kernel) (by decide +kernel), im_J4_init_da8c8, rfl, rfl, lb_J4_init_da8c8 _ _⟩
theorem lk_L_223 : LkV "TeaHouseLaw" 223 "java/lang/StringBuilder" m_J4_append_15ec4 1 := ⟨TW_of (i := 1458) (by decide +kernel) (by decide +kernel), im_J4_append_15ec4, sl_J4_append_15ec4, lb_J4_append_15ec4 _ _⟩
theorem lk_L_227 : LkV "TeaHouseLaw" 227 "java/lang/StringBuilder" m_J4_append_bf812 1 := ⟨TW_of (i := 1459) (by decide +kernel) (by decide +kernel), im_J4_append_bf812, sl_J4_append_bf812, lb_J4_append_bf812 _ _⟩
theorem lk_L_238 : LkV "TeaHouseLaw" 238 "java/lang/StringBuilder" m_J4_toString_0e30d 0 := ⟨TW_of (i := 1460) (by decide +kernel) (by decide +kernel), im_J4_toString_0e30d, sl_J4_toString_0e30d, lb_J4_toString_0e30d _ _⟩
theorem im_X8_isBoiling : Cond.instanceMethod m_X8_isBoiling.1 ∈ TW := TW_of (i := 441) (by decide +kernel) (by decide +kernel)
theorem sl_X8_isBoiling : Cond.selects "TeaHouse" m_X8_isBoiling.1 m_X8_isBoiling.1 ∈ TW := TW_of (i := 442) (by decide +kernel) (by decide +kernel)
theorem lb_X8_isBoiling : ∀ (own : String) (idx : Nat), LkB own idx m_X8_isBoiling 1 := fun _ _ => ⟨iw_X8, TW_of (i := 443) (by decide +kernel) (by decide +kernel), ⟨by decide +kernel, by decide +kernel⟩, by decide +kernel, by decide⟩
theorem lk_L_244 : LkV "TeaHouseLaw" 244 "TeaHouse" m_X8_isBoiling 1 := ⟨TW_of (i := 440) (by decide +kernel) (by decide +kernel), im_X8_isBoiling, sl_X8_isBoiling, lb_X8_isBoiling _ _⟩
theorem sm_L_isLine : Cond.static m_L_isLine.1 ∈ TW := TW_of (i := 1421) (by decide +kernel) (by decide +kernel)
theorem lb_L_isLine : ∀ (own : String) (idx : Nat), LkB own idx m_L_isLine 3 := fun _ _ => ⟨iw_L, TW_of (i := 1422) (by decide +kernel) (by decide +kernel), ⟨by decide +kernel, by decide +kernel⟩, by decide +kernel, by decide⟩
theorem lk_L_250 : LkS "TeaHouseLaw" 250 m_L_isLine 3 := ⟨TW_of (i := 1420) (by decide +kernel) (by decide +kernel), sm_L_isLine, lb_L_isLine _ _⟩
theorem im_X8_positionOf : Cond.instanceMethod m_X8_positionOf.1 ∈ TW := TW_of (i := 492) (by decide +kernel) (by decide +kernel)
theorem sl_X8_positionOf : Cond.selects "TeaHouse" m_X8_positionOf.1 m_X8_positionOf.1 ∈ TW := TW_of (i := 493) (by decide +kernel) (by decide +kernel)
theorem lb_X8_positionOf : ∀ (own : String) (idx : Nat), LkB own idx m_X8_positionOf 1 := fun _ _ => ⟨iw_X8, TW_of (i := 494) (by decide +kernel) (by decide +kernel), ⟨by decide +kernel, by decide +kernel⟩, by decide +kernel, by decide⟩
theorem lk_L_254 : LkV "TeaHouseLaw" 254 "TeaHouse" m_X8_positionOf 1 := ⟨TW_of (i := 491) (by decide +kernel) (by decide +kernel), im_X8_positionOf, sl_X8_positionOf, lb_X8_positionOf _ _⟩
theorem im_X8_priceOf : Cond.instanceMethod m_X8_priceOf.1 ∈ TW := TW_of (i := 504) (by decide +kernel) (by decide +kernel)
theorem sl_X8_priceOf : Cond.selects "TeaHouse" m_X8_priceOf.1 m_X8_priceOf.1 ∈ TW := TW_of (i := 505) (by decide +kernel) (by decide +kernel)
theorem lb_X8_priceOf : ∀ (own : String) (idx : Nat), LkB own idx m_X8_priceOf 1 := fun _ _ => ⟨iw_X8, TW_of (i := 506) (by decide +kernel) (by decide +kernel), ⟨by decide +kernel, by decide +kernel⟩, by decide +kernel, by decide⟩
theorem lk_L_257 : LkV "TeaHouseLaw" 257 "TeaHouse" m_X8_priceOf 1 := ⟨TW_of (i := 503) (by decide +kernel) (by decide +kernel), im_X8_priceOf, sl_X8_priceOf, lb_X8_priceOf _ _⟩
theorem im_X8_cupsOf : Cond.instanceMethod m_X8_cupsOf.1 ∈ TW := TW_of (i := 500) (by decide +kernel) (by decide +kernel)
theorem sl_X8_cupsOf : Cond.selects "TeaHouse" m_X8_cupsOf.1 m_X8_cupsOf.1 ∈ TW := TW_of (i := 501) (by decide +kernel) (by decide +kernel)
theorem lb_X8_cupsOf : ∀ (own : String) (idx : Nat), LkB own idx m_X8_cupsOf 1 := fun _ _ => ⟨iw_X8, TW_of (i := 502) (by decide +kernel) (by decide +kernel), ⟨by decide +kernel, by decide +kernel⟩, by decide +kernel, by decide⟩
theorem lk_L_260 : LkV "TeaHouseLaw" 260 "TeaHouse" m_X8_cupsOf 1 := ⟨TW_of (i := 499) (by decide +kernel) (by decide +kernel), im_X8_cupsOf, sl_X8_cupsOf, lb_X8_cupsOf _ _⟩
theorem im_X8_cupPrice : Cond.instanceMethod m_X8_cupPrice.1 ∈ TW := TW_of (i := 581) (by decide +kernel) (by decide +kernel)
theorem sl_X8_cupPrice : Cond.selects "TeaHouse" m_X8_cupPrice.1 m_X8_cupPrice.1 ∈ TW := TW_of (i := 582) (by decide +kernel) (by decide +kernel)
theorem lb_X8_cupPrice : ∀ (own : String) (idx : Nat), LkB own idx m_X8_cupPrice 0 := fun _ _ => ⟨iw_X8, TW_of (i := 583) (by decide +kernel) (by decide +kernel), ⟨by decide +kernel, by decide +kernel⟩, by decide +kernel, by decide⟩
theorem lk_L_263 : LkV "TeaHouseLaw" 263 "TeaHouse" m_X8_cupPrice 0 := ⟨TW_of (i := 580) (by decide +kernel) (by decide +kernel), im_X8_cupPrice, sl_X8_cupPrice, lb_X8_cupPrice _ _⟩
theorem sm_L_least : Cond.static m_L_least.1 ∈ TW := TW_of (i := 1386) (by decide +kernel) (by decide +kernel)
theorem lb_L_least : ∀ (own : String) (idx : Nat), LkB own idx m_L_least 2 := fun _ _ => ⟨iw_L, TW_of (i := 1387) (by decide +kernel) (by decide +kernel), ⟨by decide +kernel, by decide +kernel⟩, by decide +kernel, by decide⟩
theorem lk_L_268 : LkS "TeaHouseLaw" 268 m_L_least 2 := ⟨TW_of (i := 1385) (by decide +kernel) (by decide +kernel), sm_L_least, lb_L_least _ _⟩
theorem sm_L_pours : Cond.static m_L_pours.1 ∈ TW := TW_of (i := 1417) (by decide +kernel) (by decide +kernel)
theorem lb_L_pours : ∀ (own : String) (idx : Nat), LkB own idx m_L_pours 3 := fun _ _ => ⟨iw_L, TW_of (i := 1418) (by decide +kernel) (by decide +kernel), ⟨by decide +kernel, by decide +kernel⟩, by decide +kernel, by decide⟩
theorem lk_L_271 : LkS "TeaHouseLaw" 271 m_L_pours 3 := ⟨TW_of (i := 1416) (by decide +kernel) (by decide +kernel), sm_L_pours, lb_L_pours _ _⟩
theorem im_X8_cleanCups : Cond.instanceMethod m_X8_cleanCups.1 ∈ TW := TW_of (i := 561) (by decide +kernel) (by decide +kernel)
theorem sl_X8_cleanCups : Cond.selects "TeaHouse" m_X8_cleanCups.1 m_X8_cleanCups.1 ∈ TW := TW_of (i := 562) (by decide +kernel) (by decide +kernel)
theorem lb_X8_cleanCups : ∀ (own : String) (idx : Nat), LkB own idx m_X8_cleanCups 0 := fun _ _ => ⟨iw_X8, TW_of (i := 563) (by decide +kernel) (by decide +kernel), ⟨by decide +kernel, by decide +kernel⟩, by decide +kernel, by decide⟩
theorem lk_L_276 : LkV "TeaHouseLaw" 276 "TeaHouse" m_X8_cleanCups 0 := ⟨TW_of (i := 560) (by decide +kernel) (by decide +kernel), im_X8_cleanCups, sl_X8_cleanCups, lb_X8_cleanCups _ _⟩
theorem im_X8_nightIncome : Cond.instanceMethod m_X8_nightIncome.1 ∈ TW := TW_of (i := 593) (by decide +kernel) (by decide +kernel)
theorem sl_X8_nightIncome : Cond.selects "TeaHouse" m_X8_nightIncome.1 m_X8_nightIncome.1 ∈ TW := TW_of (i := 594) (by decide +kernel) (by decide +kernel)
theorem lb_X8_nightIncome : ∀ (own : String) (idx : Nat), LkB own idx m_X8_nightIncome 1 := fun _ _ => ⟨iw_X8, TW_of (i := 595) (by decide +kernel) (by decide +kernel), ⟨by decide +kernel, by decide +kernel⟩, by decide +kernel, by decide⟩
theorem lk_L_279 : LkV "TeaHouseLaw" 279 "TeaHouse" m_X8_nightIncome 1 := ⟨TW_of (i := 592) (by decide +kernel) (by decide +kernel), im_X8_nightIncome, sl_X8_nightIncome, lb_X8_nightIncome _ _⟩
theorem sm_J9_max_e70c8 : Cond.static m_J9_max_e70c8.1 ∈ TW := TW_of (i := 1450) (by decide +kernel) (by decide +kernel)
theorem iw_J9 : Cond.initialized "java/lang/Math" ∈ TW := TW_of (i := 46) (by decide +kernel) (by decide +kernel)
theorem lb_J9_max_e70c8 : ∀ (own : String) (idx : Nat), LkB own idx m_J9_max_e70c8 2 := fun _ _ => ⟨iw_J9, TW_of (i := 1451) (by decide +kernel) (by decide +kernel), ⟨by decide +kernel, by decide +kernel⟩, by decide +kernel, by decide⟩
theorem lk_L_282 : LkS "TeaHouseLaw" 282 m_J9_max_e70c8 2 := ⟨TW_of (i := 1449) (by decide +kernel) (by decide +kernel), sm_J9_max_e70c8, lb_J9_max_e70c8 _ _⟩
theorem im_X8_formatLedger : Cond.instanceMethod m_X8_formatLedger.1 ∈ TW := TW_of (i := 1074) (by decide +kernel) (by decide +kernel)
theorem sl_X8_formatLedger : Cond.selects "TeaHouse" m_X8_formatLedger.1 m_X8_formatLedger.1 ∈ TW := TW_of (i := 1075) (by decide +kernel) (by decide +kernel)
theorem lb_X8_formatLedger : ∀ (own : String) (idx : Nat), LkB own idx m_X8_formatLedger 0 := fun _ _ => ⟨iw_X8, TW_of (i := 1076) (by decide +kernel) (by decide +kernel), ⟨by decide +kernel, by decide +kernel⟩, by decide +kernel, by decide⟩
theorem lk_L_290 : LkV "TeaHouseLaw" 290 "TeaHouse" m_X8_formatLedger 0 := ⟨TW_of (i := 1073) (by decide +kernel) (by decide +kernel), im_X8_formatLedger, sl_X8_formatLedger, lb_X8_formatLedger _ _⟩
theorem im_X8_canServe : Cond.instanceMethod m_X8_canServe.1 ∈ TW := TW_of (i := 508) (by decide +kernel) (by decide +kernel)
theorem sl_X8_canServe : Cond.selects "TeaHouse" m_X8_canServe.1 m_X8_canServe.1 ∈ TW := TW_of (i := 509) (by decide +kernel) (by decide +kernel)
theorem lb_X8_canServe : ∀ (own : String) (idx : Nat), LkB own idx m_X8_canServe 0 := fun _ _ => ⟨iw_X8, TW_of (i := 510) (by decide +kernel) (by decide +kernel), ⟨by decide +kernel, by decide +kernel⟩, by decide +kernel, by decide⟩
theorem lk_L_293 : LkV "TeaHouseLaw" 293 "TeaHouse" m_X8_canServe 0 := ⟨TW_of (i := 507) (by decide +kernel) (by decide +kernel), im_X8_canServe, sl_X8_canServe, lb_X8_canServe _ _⟩
theorem im_X8_filledTotal : Cond.instanceMethod m_X8_filledTotal.1 ∈ TW := TW_of (i := 577) (by decide +kernel) (by decide +kernel)
theorem sl_X8_filledTotal : Cond.selects "TeaHouse" m_X8_filledTotal.1 m_X8_filledTotal.1 ∈ TW := TW_of (i := 578) (by decide +kernel) (by decide +kernel)
theorem lb_X8_filledTotal : ∀ (own : String) (idx : Nat), LkB own idx m_X8_filledTotal 0 := fun _ _ => ⟨iw_X8, TW_of (i := 579) (by decide +kernel) (by decide +kernel), ⟨by decide +kernel, by decide +kernel⟩, by decide +kernel, by decide⟩
theorem lk_L_297 : LkV "TeaHouseLaw" 297 "TeaHouse" m_X8_filledTotal 0 := ⟨TW_of (i := 576) (by decide +kernel) (by decide +kernel), im_X8_filledTotal, sl_X8_filledTotal, lb_X8_filledTotal _ _⟩
theorem im_X8_pouredTotal : Cond.instanceMethod m_X8_pouredTotal.1 ∈ TW := TW_of (i := 573) (by decide +kernel) (by decide +kernel)
theorem sl_X8_pouredTotal : Cond.selects "TeaHouse" m_X8_pouredTotal.1 m_X8_pouredTotal.1 ∈ TW := TW_of (i := 574) (by decide +kernel) (by decide +kernel)
theorem lb_X8_pouredTotal : ∀ (own : String) (idx : Nat), LkB own idx m_X8_pouredTotal 0 := fun _ _ => ⟨iw_X8, TW_of (i := 575) (by decide +kernel) (by decide +kernel), ⟨by decide +kernel, by decide +kernel⟩, by decide +kernel, by decide⟩
theorem lk_L_300 : LkV "TeaHouseLaw" 300 "TeaHouse" m_X8_pouredTotal 0 := ⟨TW_of (i := 572) (by decide +kernel) (by decide +kernel), im_X8_pouredTotal, sl_X8_pouredTotal, lb_X8_pouredTotal _ _⟩
theorem im_X8_boiledTotal : Cond.instanceMethod m_X8_boiledTotal.1 ∈ TW := TW_of (i := 569) (by decide +kernel) (by decide +kernel)
theorem sl_X8_boiledTotal : Cond.selects "TeaHouse" m_X8_boiledTotal.1 m_X8_boiledTotal.1 ∈ TW := TW_of (i := 570) (by decide +kernel) (by decide +kernel)
theorem lb_X8_boiledTotal : ∀ (own : String) (idx : Nat), LkB own idx m_X8_boiledTotal 0 := fun _ _ => ⟨iw_X8, TW_of (i := 571) (by decide +kernel) (by decide +kernel), ⟨by decide +kernel, by decide +kernel⟩, by decide +kernel, by decide⟩
theorem lk_L_303 : LkV "TeaHouseLaw" 303 "TeaHouse" m_X8_boiledTotal 0 := ⟨TW_of (i := 568) (by decide +kernel) (by decide +kernel), im_X8_boiledTotal, sl_X8_boiledTotal, lb_X8_boiledTotal _ _⟩
theorem im_X8_steam : Cond.instanceMethod m_X8_steam.1 ∈ TW := TW_of (i := 565) (by decide +kernel) (by decide +kernel)
theorem sl_X8_steam : Cond.selects "TeaHouse" m_X8_steam.1 m_X8_steam.1 ∈ TW := TW_of (i := 566) (by decide +kernel) (by decide +kernel)
theorem lb_X8_steam : ∀ (own : String) (idx : Nat), LkB own idx m_X8_steam 0 := fun _ _ => ⟨iw_X8, TW_of (i := 567) (by decide +kernel) (by decide +kernel), ⟨by decide +kernel, by decide +kernel⟩, by decide +kernel, by decide⟩
theorem lk_L_306 : LkV "TeaHouseLaw" 306 "TeaHouse" m_X8_steam 0 := ⟨TW_of (i := 564) (by decide +kernel) (by decide +kernel), im_X8_steam, sl_X8_steam, lb_X8_steam _ _⟩
theorem im_X8_totalIncome : Cond.instanceMethod m_X8_totalIncome.1 ∈ TW := TW_of (i := 651) (by decide +kernel) (by decide +kernel)
theorem sl_X8_totalIncome : Cond.selects "TeaHouse" m_X8_totalIncome.1 m_X8_totalIncome.1 ∈ TW := TW_of (i := 652) (by decide +kernel) (by decide +kernel)
theorem lb_X8_totalIncome : ∀ (own : String) (idx : Nat), LkB own idx m_X8_totalIncome 0 := fun _ _ => ⟨iw_X8, TW_of (i := 653) (by decide +kernel) (by decide +kernel), ⟨by decide +kernel, by decide +kernel⟩, by decide +kernel, by decide⟩
theorem lk_L_309 : LkV "TeaHouseLaw" 309 "TeaHouse" m_X8_totalIncome 0 := ⟨TW_of (i := 650) (by decide +kernel) (by decide +kernel), im_X8_totalIncome, sl_X8_totalIncome, lb_X8_totalIncome _ _⟩
theorem im_X8_totalIncomeBySales : Cond.instanceMethod m_X8_totalIncomeBySales.1 ∈ TW := TW_of (i := 659) (by decide +kernel) (by decide +kernel)
theorem sl_X8_totalIncomeBySales : Cond.selects "TeaHouse" m_X8_totalIncomeBySales.1 m_X8_totalIncomeBySales.1 ∈ TW := TW_of (i := 660) (by decide +kernel) (by decide +kernel)
theorem lb_X8_totalIncomeBySales : ∀ (own : String) (idx : Nat), LkB own idx m_X8_totalIncomeBySales 0 := fun _ _ => ⟨iw_X8, TW_of (i := 661) (by decide +kernel) (by decide +kernel), ⟨by decide +kernel, by decide +kernel⟩, by decide +kernel, by decide⟩
theorem lk_L_312 : LkV "TeaHouseLaw" 312 "TeaHouse" m_X8_totalIncomeBySales 0 := ⟨TW_of (i := 658) (by decide +kernel) (by decide +kernel), im_X8_totalIncomeBySales, sl_X8_totalIncomeBySales, lb_X8_totalIncomeBySales _ _⟩
theorem im_X8_isBalanced : Cond.instanceMethod m_X8_isBalanced.1 ∈ TW := TW_of (i := 700) (by decide +kernel) (by decide +kernel)
theorem sl_X8_isBalanced : Cond.selects "TeaHouse" m_X8_isBalanced.1 m_X8_isBalanced.1 ∈ TW := TW_of (i := 701) (by decide +kernel) (by decide +kernel)
theorem lb_X8_isBalanced : ∀ (own : String) (idx : Nat), LkB own idx m_X8_isBalanced 0 := fun _ _ => ⟨iw_X8, TW_of (i := 702) (by decide +kernel) (by decide +kernel), ⟨by decide +kernel, by decide +kernel⟩, by decide +kernel, by decide⟩
theorem lk_L_315 : LkV "TeaHouseLaw" 315 "TeaHouse" m_X8_isBalanced 0 := ⟨TW_of (i := 699) (by decide +kernel) (by decide +kernel), im_X8_isBalanced, sl_X8_isBalanced, lb_X8_isBalanced _ _⟩
theorem im_X8_meanTemperature : Cond.instanceMethod m_X8_meanTemperature.1 ∈ TW := TW_of (i := 675) (by decide +kernel) (by decide +kernel)
theorem sl_X8_meanTemperature : Cond.selects "TeaHouse" m_X8_meanTemperature.1 m_X8_meanTemperature.1 ∈ TW := TW_of (i := 676) (by decide +kernel) (by decide +kernel)
theorem lb_X8_meanTemperature : ∀ (own : String) (idx : Nat), LkB own idx m_X8_meanTemperature 0 := fun _ _ => ⟨iw_X8, TW_of (i := 677) (by decide +kernel) (by decide +kernel), ⟨by decide +kernel, by decide +kernel⟩, by decide +kernel, by decide⟩
theorem lk_L_318 : LkV "TeaHouseLaw" 318 "TeaHouse" m_X8_meanTemperature 0 := ⟨TW_of (i := 674) (by decide +kernel) (by decide +kernel), im_X8_meanTemperature, sl_X8_meanTemperature, lb_X8_meanTemperature _ _⟩
theorem im_X8_lostShare : Cond.instanceMethod m_X8_lostShare.1 ∈ TW := TW_of (i := 695) (by decide +kernel) (by decide +kernel)
theorem sl_X8_lostShare : Cond.selects "TeaHouse" m_X8_lostShare.1 m_X8_lostShare.1 ∈ TW := TW_of (i := 696) (by decide +kernel) (by decide +kernel)
theorem lb_X8_lostShare : ∀ (own : String) (idx : Nat), LkB own idx m_X8_lostShare 0 := fun _ _ => ⟨iw_X8, TW_of (i := 697) (by decide +kernel) (by decide +kernel), ⟨by decide +kernel, by decide +kernel⟩, by decide +kernel, by decide⟩
theorem lk_L_322 : LkV "TeaHouseLaw" 322 "TeaHouse" m_X8_lostShare 0 := ⟨TW_of (i := 694) (by decide +kernel) (by decide +kernel), im_X8_lostShare, sl_X8_lostShare, lb_X8_lostShare _ _⟩
theorem im_X8_undoableCount : Cond.instanceMethod m_X8_undoableCount.1 ∈ TW := TW_of (i := 1084) (by decide +kernel) (by decide +kernel)
theorem sl_X8_undoableCount : Cond.selects "TeaHouse" m_X8_undoableCount.1 m_X8_undoableCount.1 ∈ TW := TW_of (i := 1085) (by decide +kernel) (by decide +kernel)
theorem lb_X8_undoableCount : ∀ (own : String) (idx : Nat), LkB own idx m_X8_undoableCount 0 := fun _ _ => ⟨iw_X8, TW_of (i := 1086) (by decide +kernel) (by decide +kernel), ⟨by decide +kernel, by decide +kernel⟩, by decide +kernel, by decide⟩
theorem lk_L_331 : LkV "TeaHouseLaw" 331 "TeaHouse" m_X8_undoableCount 0 := ⟨TW_of (i := 1083) (by decide +kernel) (by decide +kernel), im_X8_undoableCount, sl_X8_undoableCount, lb_X8_undoableCount _ _⟩
theorem w_oi1 : Cond.instanceMethod Lib.objectInit ∈ TW := TW_of (i := 64) (by decide +kernel) (by decide +kernel)
theorem w_oi2 : Cond.code Lib.objectInit ⟨#[0xb1]⟩ 1 none ∈ TW := TW_of (i := 65) (by decide +kernel) (by decide +kernel)
theorem w_min1 : Cond.static Lib.Math.min.name ∈ TW := TW_of (i := 766) (by decide +kernel) (by decide +kernel)
theorem w_min2 : Cond.code Lib.Math.min.name Lib.Math.min.code 2 (some .int) ∈ TW := TW_of (i := 767) (by decide +kernel) (by decide +kernel)
theorem w_max1 : Cond.static Lib.Math.max.name ∈ TW := TW_of (i := 640) (by decide +kernel) (by decide +kernel)
theorem w_max2 : Cond.code Lib.Math.max.name Lib.Math.max.code 2 (some .int) ∈ TW := TW_of (i := 641) (by decide +kernel) (by decide +kernel)
theorem w_math : Cond.initialized "java/lang/Math" ∈ TW := TW_of (i := 46) (by decide +kernel) (by decide +kernel)
theorem w_arr_byte : Cond.arrayClass .byte ∈ TW := TW_of (i := 288) (by decide +kernel) (by decide +kernel)
theorem w_arr_char : Cond.arrayClass .char ∈ TW := TW_of (i := 255) (by decide +kernel) (by decide +kernel)
theorem w_arr_int : Cond.arrayClass .int ∈ TW := TW_of (i := 107) (by decide +kernel) (by decide +kernel)
theorem w_arr_boolean : Cond.arrayClass .boolean ∈ TW := TW_of (i := 108) (by decide +kernel) (by decide +kernel)
theorem th_226 : ThW "TeaHouse" 226 230 "java/lang/IndexOutOfBoundsException" := ⟨by decide +kernel, TW_of (i := 342) (by decide +kernel) (by decide +kernel), TW_of (i := 42) (by decide +kernel) (by decide +kernel), fun w hw => List.mem_filter.mpr ⟨List.mem_append_right _ ((show ∀ w ∈ vx_atS "TeaHouse" 230 "java/lang/IndexOutOfBoundsException" ["java/lang/RuntimeException", "java/lang/Exception"], w ∈ lw_tbl by decide +kernel) w hw), (show ∀ w ∈ vx_atS "TeaHouse" 230 "java/lang/IndexOutOfBoundsException" ["java/lang/RuntimeException", "java/lang/Exception"], gW w = true by decide +kernel) w hw⟩⟩
theorem th_306 : ThW "TeaHouse" 306 310 "java/lang/IllegalArgumentException" := ⟨by decide +kernel, TW_of (i := 618) (by decide +kernel) (by decide +kernel), TW_of (i := 43) (by decide +kernel) (by decide +kernel), fun w hw => List.mem_filter.mpr ⟨List.mem_append_right _ ((show ∀ w ∈ vx_atS "TeaHouse" 310 "java/lang/IllegalArgumentException" ["java/lang/RuntimeException", "java/lang/Exception"], w ∈ lw_tbl by decide +kernel) w hw), (show ∀ w ∈ vx_atS "TeaHouse" 310 "java/lang/IllegalArgumentException" ["java/lang/RuntimeException", "java/lang/Exception"], gW w = true by decide +kernel) w hw⟩⟩
theorem th_262 : ThW "TeaHouse" 262 266 "java/lang/ArithmeticException" := ⟨by decide +kernel, TW_of (i := 678) (by decide +kernel) (by decide +kernel), TW_of (i := 57) (by decide +kernel) (by decide +kernel), fun w hw => List.mem_filter.mpr ⟨List.mem_append_right _ ((show ∀ w ∈ vx_atS "TeaHouse" 266 "java/lang/ArithmeticException" ["java/lang/RuntimeException", "java/lang/Exception"], w ∈ lw_tbl by decide +kernel) w hw), (show ∀ w ∈ vx_atS "TeaHouse" 266 "java/lang/ArithmeticException" ["java/lang/RuntimeException", "java/lang/Exception"], gW w = true by decide +kernel) w hw⟩⟩
theorem th_313 : ThW "TeaHouse" 313 317 "java/lang/IllegalStateException" := ⟨by decide +kernel, TW_of (i := 1172) (by decide +kernel) (by decide +kernel), TW_of (i := 44) (by decide +kernel) (by decide +kernel), fun w hw => List.mem_filter.mpr ⟨List.mem_append_right _ ((show ∀ w ∈ vx_atS "TeaHouse" 317 "java/lang/IllegalStateException" ["java/lang/RuntimeException", "java/lang/Exception"], w ∈ lw_tbl by decide +kernel) w hw), (show ∀ w ∈ vx_atS "TeaHouse" 317 "java/lang/IllegalStateException" ["java/lang/RuntimeException", "java/lang/Exception"], gW w = true by decide +kernel) w hw⟩⟩
