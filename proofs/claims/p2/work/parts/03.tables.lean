/-! my tables: class numbers, method numbers, and what each pool number of a class means (written by wip/gen/tables.py) -/
def jt_cl : List vw_C := [(RX7, TX7, 44), (RX0, TX0, 10), (RX1, TX1, 4), (RX2, TX2, 8), (RX3, TX3, 16), (RX5, TX5, 4), (RX6, TX6, 12)]
def jt_tf : List (Nat → FieldType) := [tyX7, tyX0, tyX1, tyX2, tyX3, tyX5, tyX6]
def jt_on : List String := [RX7, RX0, RX1, RX2, RX3, RX5, RX6, RL, RJ9, RX4]
/-- a method: its name, its bytes, its locals, its answer's type, its class's number, how many parameters, its kind (0 instance, 1 static, 2 constructor, 3 the law) -/
abbrev jt_M : Type := MethodName × ByteArray × Nat × Option FieldType × Nat × Nat × Nat
def jt_ms0 : List jt_M := [(yX7_init, cX7_init, 2, none, 0, 0, 2),
  (yX7_word48, cX7_word48, 2, (some .long), 0, 1, 1),
  (yX7_word24, cX7_word24, 2, (some .int), 0, 1, 1),
  (yX7_frames, cX7_frames, 2, (some .int), 0, 1, 0),
  (yX7_words, cX7_words, 11, (some .int), 0, 5, 0),
  (yX7_bytes, cX7_bytes, 13, (some .int), 0, 5, 0),
  (yX7_job, cX7_job, 7, (some .int), 0, 2, 0),
  (yX7_exist, cX7_exist, 2, none, 0, 1, 0),
  (yX7_frameOf, cX7_frameOf, 3, (some .int), 0, 1, 0),
  (yX7_sectorOf, cX7_sectorOf, 3, (some .int), 0, 1, 0),
  (yX7_freeFrame, cX7_freeFrame, 1, (some .int), 0, 0, 0),
  (yX7_notEnded, cX7_notEnded, 3, (some .int), 0, 0, 0),
  (yX7_isActive, cX7_isActive, 4, (some .boolean), 0, 1, 0),
  (yX7_isReady, cX7_isReady, 3, (some .boolean), 0, 1, 0),
  (yX7_isAddress, cX7_isAddress, 1, (some .boolean), 0, 1, 1),
  (yX7_blockOf, cX7_blockOf, 2, (some .int), 0, 2, 1),
  (yX7_isWanted, cX7_isWanted, 3, (some .boolean), 0, 1, 0),
  (yX7_run, cX7_run, 3, (some .int), 0, 1, 0),
  (yX7_tick, cX7_tick, 2, none, 0, 0, 0),
  (yX7_isWriteAsked, cX7_isWriteAsked, 2, (some .boolean), 0, 0, 0)]
def jt_ms1 : List jt_M := [(yX7_leave, cX7_leave, 2, none, 0, 1, 0),
  (yX7_finish, cX7_finish, 2, none, 0, 0, 0),
  (yX7_vanish, cX7_vanish, 2, none, 0, 1, 0),
  (yX7_mayGo, cX7_mayGo, 2, (some .boolean), 0, 1, 0),
  (yX7_choose, cX7_choose, 3, none, 0, 0, 0),
  (yX7_ask, cX7_ask, 3, none, 0, 2, 0),
  (yX7_drop, cX7_drop, 3, none, 0, 1, 0),
  (yX7_passes, cX7_passes, 3, (some .int), 0, 1, 0),
  (yX7_begin, cX7_begin, 3, none, 0, 0, 0),
  (yX7_next, cX7_next, 3, (some .int), 0, 0, 0),
  (yX7_ends, cX7_ends, 5, none, 0, 2, 0),
  (yX7_comes, cX7_comes, 6, (some .boolean), 0, 2, 0),
  (yX7_isOrder, cX7_isOrder, 1, (some .boolean), 0, 1, 1),
  (yX7_isWithWord, cX7_isWithWord, 1, (some .boolean), 0, 1, 1),
  (yX7_sum, cX7_sum, 6, (some .int), 0, 5, 0),
  (yX7_step, cX7_step, 12, none, 0, 1, 0),
  (yX7_at, cX7_at, 3, (some .long), 0, 2, 0),
  (yX7_why, cX7_why, 7, (some .int), 0, 3, 0),
  (yX7_prints, cX7_prints, 3, (some .boolean), 0, 2, 0),
  (yX7_writeNumber, cX7_writeNumber, 9, none, 0, 2, 0)]
def jt_ms2 : List jt_M := [(yX7_setB, cX7_setB, 5, none, 0, 3, 0),
  (yX7_ofRegister, cX7_ofRegister, 7, (some .int), 0, 5, 0),
  (yX7_ofAccumulator, cX7_ofAccumulator, 7, (some .int), 0, 4, 0),
  (yX7_nextByte, cX7_nextByte, 2, (some .int), 0, 1, 0),
  (yX7_other, cX7_other, 7, none, 0, 3, 0),
  (yX7_readNumber, cX7_readNumber, 5, none, 0, 1, 0),
  (yX7_root, cX7_root, 6, (some .long), 0, 1, 1),
  (yX7_round, cX7_round, 2, none, 0, 0, 0),
  (yX7_isJob, cX7_isJob, 2, (some .boolean), 0, 1, 0),
  (yX7_ended, cX7_ended, 2, (some .int), 0, 1, 0),
  (yX7_done, cX7_done, 2, (some .int), 0, 1, 0),
  (yX7_printed, cX7_printed, 2, (some .int), 0, 1, 0),
  (yX7_out, cX7_out, 3, (some .int), 0, 2, 0),
  (yX7_register, cX7_register, 3, (some .long), 0, 2, 0),
  (yX7_word, cX7_word, 3, (some .long), 0, 2, 0),
  (yX7_clock, cX7_clock, 1, (some .int), 0, 0, 0),
  (yX7_told, cX7_told, 4, (some .int), 0, 1, 0),
  (yX7_frame, cX7_frame, 4, (some .int), 0, 2, 0),
  (yX7_sector, cX7_sector, 2, (some .int), 0, 1, 0),
  (yX7_digest, cX7_digest, 5, (some .long), 0, 0, 0)]
def jt_ms3 : List jt_M := [(yX0_init, cX0_init, 3, none, 1, 2, 2),
  (yX0_arrive, cX0_arrive, 2, none, 1, 1, 0),
  (yX0_age, cX0_age, 2, none, 1, 1, 0),
  (yX0_mayLeave, cX0_mayLeave, 1, (some .boolean), 1, 0, 0),
  (yX0_victimClass, cX0_victimClass, 1, (some .int), 1, 0, 0),
  (yX0_isBetterVictimThan, cX0_isBetterVictimThan, 4, (some .boolean), 1, 1, 0),
  (yX1_init, cX1_init, 1, none, 2, 0, 2),
  (yX1_resize, cX1_resize, 2, none, 2, 1, 0),
  (yX1_mostActive, cX1_mostActive, 1, (some .int), 2, 0, 0),
  (yX1_blockIn, cX1_blockIn, 2, (some (.object "DrumMachine$Block")), 2, 1, 0),
  (yX1_lowestFree, cX1_lowestFree, 2, (some .int), 2, 0, 0),
  (yX1_place, cX1_place, 3, none, 2, 2, 0),
  (yX1_release, cX1_release, 3, none, 2, 1, 0),
  (yX1_victim, cX1_victim, 4, (some (.object "DrumMachine$Block")), 2, 0, 0),
  (yX1_use, cX1_use, 2, none, 2, 1, 0),
  (yX1_holdRound, cX1_holdRound, 3, none, 2, 0, 0),
  (yX2_init, cX2_init, 1, none, 3, 0, 2),
  (yX2_blockOn, cX2_blockOn, 2, (some (.object "DrumMachine$Block")), 3, 1, 0),
  (yX2_load, cX2_load, 3, none, 3, 1, 0),
  (yX2_put, cX2_put, 3, none, 3, 2, 0)]
def jt_ms4 : List jt_M := [(yX2_release, cX2_release, 3, none, 3, 1, 0),
  (yX2_ask, cX2_ask, 2, none, 3, 1, 0),
  (yX2_cancel, cX2_cancel, 3, none, 3, 1, 0),
  (yX2_dropAsked, cX2_dropAsked, 3, none, 3, 1, 0),
  (yX2_begin, cX2_begin, 4, none, 3, 1, 0),
  (yX2_takeEnded, cX2_takeEnded, 3, (some (.object "DrumMachine$Block")), 3, 1, 0),
  (yX2_nextFreeSector, cX2_nextFreeSector, 6, (some .int), 3, 1, 0),
  (yX2_ticksTill, cX2_ticksTill, 2, (some .int), 3, 2, 1),
  (yX3_init, cX3_init, 6, none, 4, 4, 2),
  (yX3_wrapWord, cX3_wrapWord, 2, (some .long), 4, 1, 1),
  (yX3_wrapIndex, cX3_wrapIndex, 1, (some .int), 4, 1, 1),
  (yX3_isInStore, cX3_isInStore, 1, (some .boolean), 4, 1, 1),
  (yX3_isReady, cX3_isReady, 2, (some .boolean), 4, 1, 0),
  (yX3_stopWaiting, cX3_stopWaiting, 1, none, 4, 0, 0),
  (yX3_wants, cX3_wants, 2, (some .boolean), 4, 1, 0),
  (yX3_blockOf, cX3_blockOf, 2, (some (.object "DrumMachine$Block")), 4, 1, 0),
  (yX3_setBlock, cX3_setBlock, 3, none, 4, 2, 0),
  (yX3_load, cX3_load, 2, (some .long), 4, 1, 0),
  (yX3_keep, cX3_keep, 4, none, 4, 2, 0),
  (yX3_index, cX3_index, 2, (some .int), 4, 1, 0)]
def jt_ms5 : List jt_M := [(yX3_setIndex, cX3_setIndex, 3, none, 4, 2, 0),
  (yX3_printedByte, cX3_printedByte, 2, (some .int), 4, 1, 0),
  (yX3_addressIn, cX3_addressIn, 4, (some .int), 4, 1, 0),
  (yX3_obey, cX3_obey, 5, (some .int), 4, 3, 0),
  (yX3_obeyIndexOrder, cX3_obeyIndexOrder, 4, none, 4, 3, 0),
  (yX3_obeyAccumulatorOrder, cX3_obeyAccumulatorOrder, 3, none, 4, 2, 0),
  (yX3_goesElsewhere, cX3_goesElsewhere, 3, (some .boolean), 4, 2, 0),
  (yX3_obeyRoutine, cX3_obeyRoutine, 3, (some .int), 4, 2, 0),
  (yX3_printByte, cX3_printByte, 2, (some .int), 4, 1, 0),
  (yX3_printNumber, cX3_printNumber, 7, (some .int), 4, 0, 0),
  (yX3_nextByte, cX3_nextByte, 1, (some .int), 4, 0, 0),
  (yX3_takeByte, cX3_takeByte, 2, (some .int), 4, 0, 0),
  (yX3_takeNumber, cX3_takeNumber, 5, (some .long), 4, 0, 0),
  (yX3_divide, cX3_divide, 6, (some .int), 4, 2, 0),
  (yX3_takeRoot, cX3_takeRoot, 7, (some .int), 4, 0, 0),
  (yX3_digestFrom, cX3_digestFrom, 6, (some .long), 4, 1, 0),
  (yX5_init, cX5_init, 1, none, 5, 0, 2),
  (yX5_hasRoomForWords, cX5_hasRoomForWords, 2, (some .boolean), 5, 1, 0),
  (yX5_hasRoomForBytes, cX5_hasRoomForBytes, 2, (some .boolean), 5, 1, 0),
  (yX5_addWord, cX5_addWord, 3, none, 5, 1, 0)]
def jt_ms6 : List jt_M := [(yX5_addBytes, cX5_addBytes, 5, none, 5, 2, 0),
  (yX5_empty, cX5_empty, 1, none, 5, 0, 0),
  (yX6_init, cX6_init, 1, none, 6, 0, 2),
  (yX6_frames, cX6_frames, 2, (some .int), 6, 1, 0),
  (yX6_words, cX6_words, 11, (some .int), 6, 5, 0),
  (yX6_bytes, cX6_bytes, 10, (some .int), 6, 5, 0),
  (yX6_job, cX6_job, 6, (some .int), 6, 2, 0),
  (yX6_run, cX6_run, 3, (some .int), 6, 1, 0),
  (yX6_ended, cX6_ended, 3, (some .int), 6, 1, 0),
  (yX6_done, cX6_done, 3, (some .int), 6, 1, 0),
  (yX6_printed, cX6_printed, 3, (some .int), 6, 1, 0),
  (yX6_out, cX6_out, 4, (some .int), 6, 2, 0),
  (yX6_register, cX6_register, 4, (some .long), 6, 2, 0),
  (yX6_word, cX6_word, 4, (some .long), 6, 2, 0),
  (yX6_clock, cX6_clock, 1, (some .int), 6, 0, 0),
  (yX6_told, cX6_told, 2, (some .int), 6, 1, 0),
  (yX6_frame, cX6_frame, 4, (some .int), 6, 2, 0),
  (yX6_sector, cX6_sector, 3, (some .int), 6, 1, 0),
  (yX6_digest, cX6_digest, 5, (some .long), 6, 0, 0),
  (yX6_find, cX6_find, 2, (some (.object "DrumMachine$Job")), 6, 1, 0)]
def jt_ms7 : List jt_M := [(yX6_activate, cX6_activate, 4, none, 6, 0, 0),
  (yX6_tick, cX6_tick, 3, none, 6, 0, 0),
  (yX6_finishTransfer, cX6_finishTransfer, 2, none, 6, 0, 0),
  (yX6_chooseVictim, cX6_chooseVictim, 2, none, 6, 0, 0),
  (yX6_nextInHand, cX6_nextInHand, 5, (some .int), 6, 0, 0),
  (yX6_settle, cX6_settle, 3, none, 6, 2, 0),
  (yX6_isCounted, cX6_isCounted, 1, (some .boolean), 6, 1, 1),
  (yX6_doNextOrder, cX6_doNextOrder, 10, (some .int), 6, 1, 0),
  (yX6_reach, cX6_reach, 5, (some .int), 6, 2, 0),
  (yX6_reachHeld, cX6_reachHeld, 3, (some .int), 6, 2, 0),
  (yX6_createBlock, cX6_createBlock, 4, (some (.object "DrumMachine$Block")), 6, 2, 0),
  (yX6_endJob, cX6_endJob, 5, none, 6, 2, 0),
  (yX6_forget, cX6_forget, 2, none, 6, 1, 0),
  (yJ9_floorDiv_7cf53, cJ9_floorDiv_7cf53, 3, (some .int), 8, 2, 1),
  (yJ9_floorMod_7cf53, cJ9_floorMod_7cf53, 3, (some .int), 8, 2, 1),
  (yJ9_abs_067f4, cJ9_abs_067f4, 2, (some .long), 8, 1, 1),
  (yJ9_max_7cf53, cJ9_max_7cf53, 2, (some .int), 8, 2, 1),
  (yJ9_min_7cf53, cJ9_min_7cf53, 2, (some .int), 8, 2, 1),
  (yX4_function, cX4_function, 2, (some .int), 9, 1, 1),
  (yX4_indexRegister, cX4_indexRegister, 2, (some .int), 9, 1, 1)]
def jt_ms8 : List jt_M := [(yX4_modifier, cX4_modifier, 2, (some .int), 9, 1, 1),
  (yX4_isKnown, cX4_isKnown, 1, (some .boolean), 9, 1, 1),
  (yX4_takesWord, cX4_takesWord, 1, (some .boolean), 9, 1, 1)]
def jt_msL : List jt_M := [(yL_law, cL_law, 4, some .boolean, 7, 1, 3)]
def jt_mc : List jt_M := jt_ms0 ++ (jt_ms1 ++ (jt_ms2 ++ (jt_ms3 ++ (jt_ms4 ++ (jt_ms5 ++ (jt_ms6 ++ (jt_ms7 ++ (jt_ms8))))))))
def jt_ms : List jt_M := jt_mc ++ jt_msL
def jt_fl : List (Nat × Nat × Nat × Nat) := [(5, 9, 5, 0), (4, 65, 5, 0), (5, 15, 5, 1), (4, 82, 5, 1), (5, 19, 5, 2), (6, 73, 5, 2), (5, 23, 5, 3), (4, 70, 5, 3),
  (6, 83, 5, 3), (2, 11, 2, 0), (2, 17, 2, 1), (6, 156, 2, 1), (2, 21, 2, 2), (6, 238, 2, 2), (2, 24, 2, 3), (6, 143, 2, 3),
  (3, 11, 3, 0), (3, 17, 3, 1), (3, 20, 3, 2), (3, 24, 3, 3), (6, 338, 3, 3), (3, 28, 3, 4), (3, 31, 3, 5), (6, 241, 3, 5),
  (3, 35, 3, 6), (6, 137, 3, 6), (3, 38, 3, 7), (6, 140, 3, 7), (6, 12, 6, 0), (6, 19, 6, 1), (6, 26, 6, 2), (6, 32, 6, 3),
  (6, 36, 6, 4), (6, 40, 6, 5), (6, 43, 6, 6), (6, 46, 6, 7), (6, 49, 6, 8), (6, 52, 6, 9), (6, 55, 6, 10), (6, 58, 6, 11),
  (4, 59, 4, 0), (6, 103, 4, 0), (4, 62, 4, 1), (6, 270, 4, 1), (4, 9, 4, 2), (6, 124, 4, 2), (4, 15, 4, 3), (4, 19, 4, 4),
  (6, 128, 4, 4), (4, 23, 4, 5), (4, 29, 4, 6), (6, 334, 4, 6), (4, 79, 4, 7), (4, 33, 4, 8), (4, 36, 4, 9), (4, 39, 4, 10),
  (6, 117, 4, 10), (4, 42, 4, 11), (6, 116, 4, 11), (4, 45, 4, 12), (6, 113, 4, 12), (4, 48, 4, 13), (6, 197, 4, 13), (4, 52, 4, 14),
  (6, 324, 4, 14), (4, 56, 4, 15), (6, 317, 4, 15), (1, 37, 1, 0), (6, 163, 1, 0), (1, 41, 1, 1), (4, 91, 1, 1), (6, 169, 1, 1),
  (1, 9, 1, 2), (2, 31, 1, 2), (6, 308, 1, 2), (1, 15, 1, 3), (3, 45, 1, 3), (1, 18, 1, 4), (4, 85, 1, 4), (2, 45, 1, 4),
  (6, 170, 1, 4), (1, 22, 1, 5), (3, 48, 1, 5), (6, 226, 1, 5), (1, 25, 1, 6), (6, 174, 1, 6), (1, 28, 1, 7), (6, 177, 1, 7),
  (1, 31, 1, 8), (2, 42, 1, 8), (1, 34, 1, 9), (6, 248, 1, 9), (0, 7, 0, 0), (0, 13, 0, 1), (0, 100, 0, 2), (0, 17, 0, 3),
  (0, 107, 0, 4), (0, 97, 0, 5), (0, 21, 0, 6), (0, 24, 0, 7), (0, 27, 0, 8), (0, 30, 0, 9), (0, 33, 0, 10), (0, 36, 0, 11),
  (0, 39, 0, 12), (0, 42, 0, 13), (0, 45, 0, 14), (0, 48, 0, 15), (0, 51, 0, 16), (0, 54, 0, 17), (0, 57, 0, 18), (0, 60, 0, 19),
  (0, 63, 0, 20), (0, 67, 0, 21), (0, 110, 0, 22), (0, 70, 0, 23), (0, 73, 0, 24), (0, 76, 0, 25), (0, 79, 0, 26), (0, 82, 0, 27),
  (0, 85, 0, 28), (0, 88, 0, 29), (0, 91, 0, 30), (0, 161, 0, 31), (0, 142, 0, 32), (0, 176, 0, 33), (0, 182, 0, 34), (0, 145, 0, 35),
  (0, 148, 0, 36), (0, 94, 0, 37), (0, 207, 0, 38), (0, 213, 0, 39), (0, 222, 0, 40), (0, 170, 0, 41), (0, 188, 0, 42), (0, 258, 0, 43)]
def jt_ml : List (Nat × Nat × Nat) := [(7, 9, 122), (7, 13, 123), (6, 61, 67), (7, 20, 124), (6, 65, 117), (6, 69, 119), (5, 26, 89), (7, 25, 125),
  (6, 76, 118), (6, 79, 120), (7, 30, 126), (6, 86, 88), (4, 73, 156), (6, 89, 121), (6, 92, 150), (6, 328, 60),
  (6, 330, 96), (6, 96, 78), (3, 41, 79), (6, 100, 140), (6, 146, 68), (6, 109, 139), (7, 35, 127), (6, 106, 141),
  (6, 200, 142), (6, 223, 85), (6, 229, 61), (6, 232, 72), (6, 235, 152), (6, 344, 80), (6, 203, 143), (6, 244, 73),
  (2, 27, 69), (2, 34, 63), (1, 44, 94), (4, 88, 153), (2, 38, 65), (1, 50, 64), (6, 251, 81), (6, 206, 84),
  (3, 55, 86), (3, 63, 87), (3, 67, 154), (3, 59, 80), (3, 51, 83), (6, 209, 144), (6, 254, 156), (6, 257, 92),
  (6, 212, 93), (6, 215, 147), (6, 273, 148), (6, 305, 91), (6, 277, 95), (4, 92, 91), (6, 310, 149), (6, 314, 70),
  (6, 320, 71), (6, 134, 97), (6, 280, 158), (6, 286, 161), (6, 289, 102), (4, 100, 160), (4, 106, 99), (4, 109, 158),
  (4, 112, 159), (4, 96, 90), (6, 292, 162), (6, 295, 159), (6, 298, 103), (4, 115, 104), (4, 133, 100), (4, 136, 97),
  (4, 140, 98), (4, 119, 105), (4, 144, 89), (4, 123, 107), (4, 148, 108), (4, 151, 111), (4, 176, 110), (4, 155, 113),
  (4, 159, 109), (4, 169, 155), (4, 162, 112), (4, 166, 114), (4, 129, 106), (6, 264, 146), (6, 302, 74), (6, 219, 145),
  (6, 261, 151), (6, 341, 82), (6, 267, 75), (2, 49, 62), (7, 39, 128), (7, 43, 129), (7, 47, 130), (7, 51, 131),
  (6, 120, 101), (7, 55, 132), (6, 131, 99), (7, 60, 133), (7, 64, 134), (7, 69, 135), (6, 150, 157), (7, 73, 136),
  (6, 159, 69), (7, 77, 137), (6, 180, 77), (7, 81, 138), (6, 185, 115), (6, 191, 135), (6, 194, 136), (7, 12, 0),
  (7, 17, 3), (7, 24, 4), (0, 103, 1), (7, 29, 5), (7, 34, 6), (0, 113, 7), (7, 38, 17), (0, 136, 11),
  (0, 139, 18), (0, 151, 21), (0, 179, 20), (0, 185, 22), (0, 121, 10), (0, 117, 8), (0, 154, 19), (0, 158, 24),
  (0, 194, 23), (0, 191, 16), (0, 125, 12), (0, 129, 14), (0, 132, 15), (0, 197, 25), (0, 164, 28), (0, 201, 26),
  (0, 204, 9), (0, 210, 27), (0, 167, 29), (0, 216, 13), (0, 173, 35), (0, 219, 30), (0, 229, 31), (0, 233, 32),
  (0, 225, 2), (0, 236, 34), (0, 240, 33), (0, 243, 37), (0, 266, 36), (0, 272, 39), (0, 275, 38), (0, 247, 41),
  (0, 280, 40), (0, 250, 42), (0, 254, 44), (0, 284, 43), (0, 287, 45), (0, 290, 46), (0, 261, 47), (7, 42, 49),
  (0, 297, 48), (7, 46, 50), (7, 50, 51), (7, 54, 52), (7, 59, 53), (7, 63, 54), (7, 68, 55), (7, 72, 56),
  (7, 76, 57), (7, 80, 58), (7, 85, 59), (0, 304, 56), (0, 307, 57)]
def jt_mn : List (Nat × Nat × Nat × Nat) := [(6, 11, 116, 6), (6, 18, 66, 6), (6, 25, 76, 6), (4, 126, 146, 6)]
def jt_ob : List (Nat × Nat) := [(6, 3), (5, 3), (2, 3), (3, 3), (4, 3), (1, 3), (0, 1)]
def jt_nl : List (Nat × Nat × Nat) := [(7, 7, 6), (6, 9, 5), (6, 16, 2), (2, 9, 1), (6, 23, 3), (3, 9, 1), (6, 30, 4), (4, 27, 1),
  (6, 164, 1), (7, 10, 0)]
def jt_ki : List (Nat × Nat × Int32) := []
def jt_kj : List (Nat × Nat × Int64) := [(4, 179, (-140737488355328)), (4, 172, 10), (4, 174, 48), (4, 181, 8388608), (6, 183, 7), (4, 183, 31), (6, 189, 31), (0, 264, (-140737488355328)),
  (0, 270, 10), (0, 278, 48), (0, 293, 8388608), (0, 295, 2), (0, 300, 7), (0, 302, 31), (7, 18, 4294967295)]
/-- the kinds of arrays; the last one is the script (read only) -/
def jt_at : List FieldType := [.int, .long, .boolean, .object RX0, .object RX3, .int]
def jt_scr : Nat := 5
def jt_law : Nat := 163
def jt_m (M : Nat) : jt_M := jt_ms.getD M (⟨"", "", ""⟩, ⟨#[]⟩, 0, none, 0, 0, 9)
def jt_cn (k : Nat) : String := jt_on.getD k ""
def jt_wfl (q : Nat × Nat × Nat × Nat) : Cond := match jt_cl[q.2.2.1]? with | some r => .fieldLink (jt_cn q.1) q.2.1 (r.2.1 q.2.2.2).1 (r.2.1 q.2.2.2).2.1 (r.2.1 q.2.2.2).2.2.1 | none => .tt
def jt_wml (q : Nat × Nat × Nat) : Cond := .methodLink (jt_cn q.1) q.2.1 (jt_m q.2.2).1
def jt_wmn (q : Nat × Nat × Nat × Nat) : Cond := .methodLinkNest (jt_cn q.1) q.2.1 (jt_m q.2.2.1).1 (jt_cn q.2.2.2)
def jt_wob (q : Nat × Nat) : Cond := .methodLink (jt_cn q.1) q.2 objectInit
def jt_wnl (q : Nat × Nat × Nat) : Cond := .classLink (jt_cn q.1) q.2.1 (jt_cn q.2.2)
def jt_wki (q : Nat × Nat × Int32) : Cond := .constant (jt_cn q.1) q.2.1 q.2.2
def jt_wkj (q : Nat × Nat × Int64) : Cond := .constantLong (jt_cn q.1) q.2.1 q.2.2
def jt_wm (q : jt_M) : List Cond := .code q.1 q.2.1 q.2.2.1 q.2.2.2.1 :: .initialized q.1.cls :: (if q.2.2.2.2.2.2 = 1 then [.static q.1] else if q.2.2.2.2.2.2 = 2 then [.instanceMethod q.1] else [.instanceMethod q.1, .selects q.1.cls q.1 q.1])
def jt_wc (r : vw_C) : List Cond := .instantiable r.1 r.2.2 :: .initialized r.1 :: u_ws r.1 r.2.1 r.2.2
theorem jt_in {α : Type} {L : List α} {f : α → Cond} (ps : List Nat) (h : L.map f = ps.filterMap (fun i => lw_tbl[i]?)) : ∀ q ∈ L, f q ∈ lw_tbl := by
  intro q hq
  have h1 : f q ∈ L.map f := List.mem_map_of_mem hq
  rw [h] at h1
  obtain ⟨i, -, hi⟩ := List.mem_filterMap.mp h1
  exact List.mem_of_getElem? hi
theorem jt_inL {α : Type} {L : List α} {f : α → List Cond} (ps : List Nat) (h : L.flatMap f = ps.filterMap (fun i => lw_tbl[i]?)) : ∀ q ∈ L, ∀ w ∈ f q, w ∈ lw_tbl := by
  intro q hq w hw
  have h1 : w ∈ L.flatMap f := List.mem_flatMap.mpr ⟨q, hq, hw⟩
  rw [h] at h1
  obtain ⟨i, -, hi⟩ := List.mem_filterMap.mp h1
  exact List.mem_of_getElem? hi
set_option maxRecDepth 100000 in
theorem jt_fl_in : ∀ q ∈ jt_fl, jt_wfl q ∈ lw_tbl := jt_in [73, 74, 75, 76, 77, 78, 79, 80, 81, 101, 102, 103, 104, 105, 106, 107, 124, 125, 126, 127, 128, 129, 130, 131, 132, 133, 134, 135, 155, 156, 157, 158, 159, 160, 161, 162, 163, 164, 165, 166, 240, 241, 242, 243, 244, 245, 246, 247, 248, 249, 250, 251, 252, 253, 254, 255, 256, 257, 258, 259, 260, 261, 262, 263, 264, 265, 266, 314, 315, 316, 317, 318, 319, 320, 321, 322, 323, 324, 325, 326, 327, 328, 329, 330, 331, 332, 333, 334, 335, 336, 337, 338, 708, 709, 710, 711, 712, 713, 714, 715, 716, 717, 718, 719, 720, 721, 722, 723, 724, 725, 726, 727, 728, 729, 730, 731, 732, 733, 734, 735, 736, 737, 738, 739, 740, 741, 742, 743, 744, 745, 746, 747, 748, 749, 750, 751] rfl
set_option maxRecDepth 100000 in
theorem jt_ml_in : ∀ q ∈ jt_ml, jt_wml q ∈ lw_tbl := jt_in [61, 192, 196, 200, 204, 208, 212, 215, 219, 223, 227, 232, 237, 300, 304, 310, 360, 364, 368, 372, 376, 380, 384, 388, 392, 396, 400, 404, 408, 412, 416, 420, 424, 428, 432, 436, 439, 443, 447, 451, 455, 459, 462, 465, 466, 470, 474, 475, 479, 483, 487, 491, 494, 498, 499, 503, 507, 511, 515, 518, 521, 525, 528, 532, 533, 536, 539, 542, 543, 547, 551, 555, 556, 560, 564, 565, 569, 573, 577, 581, 586, 590, 595, 599, 607, 611, 612, 616, 620, 624, 628, 632, 636, 640, 644, 648, 652, 656, 660, 661, 665, 669, 673, 676, 680, 681, 685, 689, 694, 700, 701, 704, 842, 846, 850, 853, 857, 861, 865, 869, 873, 877, 881, 885, 889, 893, 897, 901, 905, 909, 913, 917, 920, 923, 927, 931, 935, 939, 943, 947, 951, 955, 959, 963, 966, 969, 973, 976, 981, 986, 990, 995, 999, 1003, 1007, 1011, 1015, 1019, 1024, 1028, 1032, 1036, 1040, 1044, 1048, 1052, 1056, 1060, 1064, 1068, 1072, 1078, 1079] rfl
set_option maxRecDepth 100000 in
theorem jt_mn_in : ∀ q ∈ jt_mn, jt_wmn q ∈ lw_tbl := jt_in [69, 95, 119, 604] rfl
set_option maxRecDepth 100000 in
theorem jt_ob_in : ∀ q ∈ jt_ob, jt_wob q ∈ lw_tbl := jt_in [64, 72, 98, 122, 235, 313, 707] rfl
set_option maxRecDepth 100000 in
theorem jt_nl_in : ∀ q ∈ jt_nl, jt_wnl q ∈ lw_tbl := jt_in [59, 67, 93, 99, 117, 123, 153, 236, 308, 702] rfl
set_option maxRecDepth 100000 in
theorem jt_ki_in : ∀ q ∈ jt_ki, jt_wki q ∈ lw_tbl := jt_in [] rfl
set_option maxRecDepth 100000 in
theorem jt_kj_in : ∀ q ∈ jt_kj, jt_wkj q ∈ lw_tbl := jt_in [585, 593, 594, 603, 693, 698, 699, 980, 985, 994, 1022, 1023, 1076, 1077, 1080] rfl
set_option maxRecDepth 100000 in
theorem jt_ms0_in : ∀ q ∈ jt_ms0, ∀ w ∈ jt_wm q, w ∈ lw_tbl := jt_inL [706, 54, 705, 852, 54, 851, 968, 54, 967, 845, 54, 843, 844, 849, 54, 847, 848, 856, 54, 854, 855, 860, 54, 858, 859, 864, 54, 863, 13, 896, 54, 895, 20, 938, 54, 937, 29, 892, 54, 891, 19, 872, 54, 871, 14, 916, 54, 915, 25, 950, 54, 949, 32, 919, 54, 918, 922, 54, 921, 912, 54, 911, 24, 868, 54, 866, 867, 876, 54, 875, 15, 900, 54, 899, 21] rfl
set_option maxRecDepth 100000 in
theorem jt_ms1_in : ∀ q ∈ jt_ms1, ∀ w ∈ jt_wm q, w ∈ lw_tbl := jt_inL [884, 54, 883, 17, 880, 54, 879, 16, 888, 54, 887, 18, 908, 54, 907, 23, 904, 54, 903, 22, 926, 54, 925, 26, 934, 54, 933, 28, 942, 54, 941, 30, 930, 54, 929, 27, 946, 54, 945, 31, 958, 54, 957, 34, 962, 54, 961, 35, 965, 54, 964, 975, 54, 974, 972, 54, 971, 36, 954, 54, 953, 33, 984, 54, 983, 38, 979, 54, 978, 37, 993, 54, 992, 40, 989, 54, 988, 39] rfl
set_option maxRecDepth 100000 in
theorem jt_ms2_in : ∀ q ∈ jt_ms2, ∀ w ∈ jt_wm q, w ∈ lw_tbl := jt_inL [1002, 54, 1001, 42, 998, 54, 997, 41, 1006, 54, 1005, 43, 1014, 54, 1013, 45, 1010, 54, 1009, 44, 1018, 54, 1017, 46, 1021, 54, 1020, 1027, 54, 1026, 47, 1035, 54, 1034, 48, 1031, 54, 1029, 1030, 1039, 54, 1037, 1038, 1043, 54, 1041, 1042, 1047, 54, 1045, 1046, 1051, 54, 1049, 1050, 1055, 54, 1053, 1054, 1059, 54, 1057, 1058, 1063, 54, 1061, 1062, 1067, 54, 1065, 1066, 1071, 54, 1069, 1070, 1075, 54, 1073, 1074] rfl
set_option maxRecDepth 100000 in
theorem jt_ms3_in : ∀ q ∈ jt_ms3, ∀ w ∈ jt_wm q, w ∈ lw_tbl := jt_inL [312, 57, 311, 403, 57, 401, 402, 635, 57, 633, 634, 431, 57, 429, 430, 446, 57, 444, 445, 442, 57, 440, 441, 97, 52, 96, 199, 52, 197, 198, 379, 52, 377, 378, 427, 52, 425, 426, 506, 52, 504, 505, 510, 52, 508, 509, 407, 52, 405, 406, 423, 52, 421, 422, 615, 52, 613, 614, 631, 52, 629, 630, 121, 53, 120, 688, 53, 686, 687, 367, 53, 365, 366, 371, 53, 369, 370] rfl
set_option maxRecDepth 100000 in
theorem jt_ms4_in : ∀ q ∈ jt_ms4, ∀ w ∈ jt_wm q, w ∈ lw_tbl := jt_inL [415, 53, 413, 414, 450, 53, 448, 449, 627, 53, 625, 626, 469, 53, 467, 468, 454, 53, 452, 453, 399, 53, 397, 398, 458, 53, 456, 457, 461, 53, 460, 234, 55, 233, 214, 55, 213, 538, 55, 537, 493, 55, 492, 478, 55, 476, 477, 482, 55, 480, 481, 435, 55, 433, 434, 497, 55, 495, 496, 363, 55, 361, 362, 514, 55, 512, 513, 559, 55, 557, 558, 531, 55, 529, 530] rfl
set_option maxRecDepth 100000 in
theorem jt_ms5_in : ∀ q ∈ jt_ms5, ∀ w ∈ jt_wm q, w ∈ lw_tbl := jt_inL [554, 55, 552, 553, 655, 55, 653, 654, 524, 55, 522, 523, 546, 55, 544, 545, 550, 55, 548, 549, 563, 55, 561, 562, 610, 55, 608, 609, 568, 55, 566, 567, 572, 55, 570, 571, 589, 55, 587, 588, 580, 55, 578, 579, 576, 55, 574, 575, 598, 55, 596, 597, 584, 55, 582, 583, 602, 55, 600, 601, 697, 55, 695, 696, 71, 51, 70, 207, 51, 205, 206, 222, 51, 220, 221, 211, 51, 209, 210] rfl
set_option maxRecDepth 100000 in
theorem jt_ms6_in : ∀ q ∈ jt_ms6, ∀ w ∈ jt_wm q, w ∈ lw_tbl := jt_inL [226, 51, 224, 225, 303, 51, 301, 302, 63, 50, 62, 195, 50, 193, 194, 203, 50, 201, 202, 218, 50, 216, 217, 230, 50, 228, 229, 387, 50, 385, 386, 639, 50, 637, 638, 643, 50, 641, 642, 647, 50, 645, 646, 651, 50, 649, 650, 659, 50, 657, 658, 664, 50, 662, 663, 668, 50, 666, 667, 672, 50, 670, 671, 679, 50, 677, 678, 684, 50, 682, 683, 692, 50, 690, 691, 383, 50, 382, 2] rfl
set_option maxRecDepth 100000 in
theorem jt_ms7_in : ∀ q ∈ jt_ms7, ∀ w ∈ jt_wm q, w ∈ lw_tbl := jt_inL [375, 50, 374, 1, 391, 50, 390, 3, 395, 50, 394, 4, 419, 50, 418, 6, 473, 50, 472, 7, 619, 50, 618, 11, 606, 50, 605, 486, 50, 485, 8, 490, 50, 489, 9, 502, 50, 501, 10, 307, 50, 306, 0, 623, 50, 622, 12, 411, 50, 410, 5, 438, 56, 437, 464, 56, 463, 592, 56, 591, 239, 56, 238, 675, 56, 674, 517, 58, 516, 535, 58, 534] rfl
set_option maxRecDepth 100000 in
theorem jt_ms8_in : ∀ q ∈ jt_ms8, ∀ w ∈ jt_wm q, w ∈ lw_tbl := jt_inL [527, 58, 526, 520, 58, 519, 541, 58, 540] rfl
theorem jt_mc_in : ∀ q ∈ jt_mc, ∀ w ∈ jt_wm q, w ∈ lw_tbl := by
  intro q hq
  simp only [jt_mc, List.mem_append] at hq
  rcases hq with h | h | h | h | h | h | h | h | h
  · exact jt_ms0_in q h
  · exact jt_ms1_in q h
  · exact jt_ms2_in q h
  · exact jt_ms3_in q h
  · exact jt_ms4_in q h
  · exact jt_ms5_in q h
  · exact jt_ms6_in q h
  · exact jt_ms7_in q h
  · exact jt_ms8_in q h
set_option maxRecDepth 100000 in
theorem jt_cl_in : ∀ q ∈ jt_cl, ∀ w ∈ jt_wc q, w ∈ lw_tbl := jt_inL [703, 54, 752, 754, 756, 758, 760, 762, 764, 766, 768, 770, 772, 774, 776, 778, 780, 782, 784, 786, 788, 790, 792, 794, 796, 798, 800, 802, 804, 806, 808, 810, 812, 814, 816, 818, 820, 822, 824, 826, 828, 830, 832, 834, 836, 838, 309, 57, 339, 341, 343, 345, 347, 349, 351, 353, 355, 357, 94, 52, 108, 110, 112, 114, 118, 53, 136, 138, 140, 142, 144, 146, 148, 150, 231, 55, 267, 269, 271, 273, 275, 277, 279, 281, 283, 285, 287, 289, 291, 293, 295, 297, 68, 51, 82, 84, 86, 88, 60, 50, 167, 169, 171, 173, 175, 177, 179, 181, 183, 185, 187, 189] rfl
def jt_ap : List (Nat) := [92, 91, 841]
theorem jt_ac0 : Cond.arrayClass .int ∈ lw_tbl := List.mem_of_getElem? (i := 92) (by decide +kernel)
theorem jt_ac1 : Cond.arrayClass .long ∈ lw_tbl := List.mem_of_getElem? (i := 91) (by decide +kernel)
theorem jt_ac2 : Cond.arrayClass .boolean ∈ lw_tbl := List.mem_of_getElem? (i := 841) (by decide +kernel)
theorem jt_ao0 : Cond.arrayOver (.object RX0) ∈ lw_tbl := List.mem_of_getElem? (i := 100) (by decide +kernel)
theorem jt_ao1 : Cond.arrayOver (.object RX3) ∈ lw_tbl := List.mem_of_getElem? (i := 154) (by decide +kernel)
theorem jt_obc : Cond.code objectInit ⟨#[0xb1]⟩ 1 none ∈ lw_tbl := List.mem_of_getElem? (i := 66) (by decide +kernel)
theorem jt_obi : Cond.instanceMethod objectInit ∈ lw_tbl := List.mem_of_getElem? (i := 65) (by decide +kernel)
theorem jt_cl_ty : ∀ (ci : Nat) (r : vw_C), jt_cl[ci]? = some r → (∀ k, k < r.2.2 → parseFieldDescriptor (r.2.1 k).2.2.1 = some ((jt_tf.getD ci (fun _ => .int)) k)) ∧ ∀ a, a < r.2.2 → ∀ b, b < r.2.2 → a ≠ b → (r.2.1 a).2.1 ≠ (r.2.1 b).2.1 := by
  intro ci r h
  match ci, h with
  | 0, h => cases h; exact ⟨tyX7_ok, nmX7⟩
  | 1, h => cases h; exact ⟨tyX0_ok, nmX0⟩
  | 2, h => cases h; exact ⟨tyX1_ok, nmX1⟩
  | 3, h => cases h; exact ⟨tyX2_ok, nmX2⟩
  | 4, h => cases h; exact ⟨tyX3_ok, nmX3⟩
  | 5, h => cases h; exact ⟨tyX5_ok, nmX5⟩
  | 6, h => cases h; exact ⟨tyX6_ok, nmX6⟩
  | n + 7, h => simp [jt_cl] at h
theorem jt_cl_cn : ∀ (ci : Nat) (r : vw_C), jt_cl[ci]? = some r → jt_cn ci = r.1 := by
  intro ci r h
  match ci, h with
  | 0, h => cases h; rfl
  | 1, h => cases h; rfl
  | 2, h => cases h; rfl
  | 3, h => cases h; rfl
  | 4, h => cases h; rfl
  | 5, h => cases h; rfl
  | 6, h => cases h; rfl
  | n + 7, h => simp [jt_cl] at h
theorem jt_cl_decl : ∀ (ci : Nat) (r : vw_C), jt_cl[ci]? = some r → ∀ f, f < r.2.2 → (r.2.1 f).1 = jt_cn ci := by
  intro ci r h
  match ci, h with
  | 0, h => cases h; decide +kernel
  | 1, h => cases h; decide +kernel
  | 2, h => cases h; decide +kernel
  | 3, h => cases h; decide +kernel
  | 4, h => cases h; decide +kernel
  | 5, h => cases h; decide +kernel
  | 6, h => cases h; decide +kernel
  | n + 7, h => simp [jt_cl] at h
def jt_prim (t : FieldType) : Bool := match t with | .object _ => false | .array _ => false | _ => true
theorem jt_ac_in : ∀ (k : Nat) (t : FieldType), jt_at[k]? = some t → jt_prim t = true → Cond.arrayClass t ∈ lw_tbl := by
  intro k t h hp
  match k, h with
  | 0, h => cases h; exact jt_ac0
  | 1, h => cases h; exact jt_ac1
  | 2, h => cases h; exact jt_ac2
  | 3, h => cases h; cases hp
  | 4, h => cases h; cases hp
  | 5, h => cases h; exact jt_ac0
  | n + 6, h => simp [jt_at] at h
theorem jt_ob_of : ∀ (k : Nat) (t : FieldType), jt_at[k]? = some t → jt_prim t = false → ∃ C, t = .object C := by
  intro k t h hp
  match k, h with
  | 0, h => cases h; cases hp
  | 1, h => cases h; cases hp
  | 2, h => cases h; cases hp
  | 3, h => cases h; exact ⟨_, rfl⟩
  | 4, h => cases h; exact ⟨_, rfl⟩
  | 5, h => cases h; cases hp
  | n + 6, h => simp [jt_at] at h
theorem jt_ao_in : ∀ (k : Nat) (C : String), jt_at[k]? = some (.object C) → Cond.arrayOver (.object C) ∈ lw_tbl := by
  intro k t h
  match k, h with
  | 0, h => cases h
  | 1, h => cases h
  | 2, h => cases h
  | 3, h => cases h; exact jt_ao0
  | 4, h => cases h; exact jt_ao1
  | 5, h => cases h
  | n + 6, h => simp [jt_at] at h
