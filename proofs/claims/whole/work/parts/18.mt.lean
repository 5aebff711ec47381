/-- every method: its class, name, bytes, locals, answer, cells and slots that it may make, code -/
abbrev am_M : Type := String × MethodName × ByteArray × Nat × Option FieldType × Nat × Nat × List CI
def am_mt : List am_M := [(RX4, yX4_init, prog_1_method_1_code, 4, none, 82, 938, cd_F_init),
  (RX4, yX4_sheet, prog_1_method_2_code, 4, (some .int), 0, 0, cd_F_sheet),
  (RX4, yX4_set, prog_1_method_3_code, 5, (some .long), 0, 0, cd_F_set),
  (RX4, yX4_copy, prog_1_method_4_code, 6, (some .int), 0, 0, cd_F_copy),
  (RX4, yX4_drop, prog_1_method_5_code, 3, (some .int), 0, 0, cd_F_drop),
  (RX4, yX4_part, prog_1_method_6_code, 5, (some .int), 2, 15, cd_F_part),
  (RX4, yX4_nth, prog_1_method_7_code, 4, (some .int), 2, 15, cd_F_nth),
  (RX4, yX4_both, prog_1_method_8_code, 7, (some .int), 10, 75, cd_F_both),
  (RX4, yX4_turn, prog_1_method_9_code, 5, (some .int), 2, 15, cd_F_turn),
  (RX4, yX4_clear, prog_1_method_10_code, 3, (some .int), 0, 0, cd_F_clear),
  (RX4, yX4_kind, prog_1_method_11_code, 3, (some .int), 0, 0, cd_F_kind),
  (RX4, yX4_is, prog_1_method_12_code, 4, (some .int), 0, 0, cd_F_is),
  (RX4, yX4_as, prog_1_method_13_code, 4, (some .int), 0, 0, cd_F_as),
  (RX4, yX4_ask, prog_1_method_14_code, 4, (some .int), 0, 0, cd_F_ask),
  (RX4, yX4_trace, prog_1_method_15_code, 2, (some .int), 0, 0, cd_F_trace),
  (RX4, yX4_block, prog_1_method_16_code, 4, (some .int), 0, 0, cd_F_block),
  (RX4, yX4_told, prog_1_method_17_code, 4, (some .int), 2, 15, cd_F_told),
  (RX4, yX4_finer, prog_1_method_18_code, 5, (some .int), 0, 0, cd_F_finer),
  (RX4, yX4_handles, prog_1_method_19_code, 3, (some .int), 0, 0, cd_F_handles),
  (RX4, yX4_series, prog_1_method_20_code, 7, (some .int), 0, 0, cd_F_series),
  (RX4, yX4_number, prog_1_method_21_code, 4, (some .long), 0, 0, cd_F_number),
  (RX4, yX4_join, prog_1_method_22_code, 8, (some .int), 0, 0, cd_F_join),
  (RX4, yX4_change, prog_1_method_23_code, 6, (some .int), 0, 0, cd_F_change),
  (RX4, yX4_hankel, prog_1_method_24_code, 4, (some .long), 0, 0, cd_F_hankel),
  (RX4, yX4_same, prog_1_method_25_code, 4, (some .int), 0, 0, cd_F_same),
  (RX4, yX4_genus, prog_1_method_26_code, 3, (some .long), 0, 0, cd_F_genus),
  (RX4, yX4_mean, prog_1_method_27_code, 6, (some .long), 0, 0, cd_F_mean),
  (RX4, yX4_walks, prog_1_method_28_code, 4, (some .long), 0, 0, cd_F_walks),
  (RX4, yX4_count, prog_1_method_29_code, 2, (some .int), 0, 0, cd_F_count),
  (RX4, yX4_status, prog_1_method_30_code, 1, (some .int), 0, 0, cd_F_status),
  (RX4, yX4_noSheet, prog_1_method_31_code, 1, (some .boolean), 0, 0, cd_F_noSheet),
  (RX4, yX4_noPlace, prog_1_method_32_code, 1, (some .boolean), 0, 0, cd_F_noPlace),
  (RX4, yX4_noSeries, prog_1_method_33_code, 1, (some .boolean), 0, 0, cd_F_noSeries),
  (RX4, yX4_noSort, prog_1_method_34_code, 1, (some .boolean), 0, 0, cd_F_noSort),
  (RX4, yX4_noPairs, prog_1_method_35_code, 1, (some .boolean), 0, 0, cd_F_noPairs),
  (RX4, yX4_noRun, prog_1_method_36_code, 4, (some .boolean), 0, 0, cd_F_noRun),
  (RX4, yX4_finding, prog_1_method_37_code, 2, (some .int), 0, 0, cd_F_finding),
  (RX4, yX4_fine, prog_1_method_38_code, 2, (some .int), 0, 0, cd_F_fine),
  (RX4, yX4_lowestBits, prog_1_method_39_code, 3, (some .long), 0, 0, cd_F_lowestBits),
  (RX4, yX4_labelLikeItems, prog_1_method_40_code, 6, none, 0, 0, cd_F_labelLikeItems),
  (RX4, yX4_shelve, prog_1_method_41_code, 3, (some .int), 0, 0, cd_F_shelve),
  (RX4, yX4_meetOf, prog_1_method_42_code, 4, (some (.object "FreeParts$Thing")), 2, 15, cd_F_meetOf),
  (RX4, yX4_joinOf, prog_1_method_43_code, 4, (some (.object "FreeParts$Thing")), 10, 75, cd_F_joinOf),
  (RX4, yX4_turnedBy, prog_1_method_44_code, 5, (some (.object "FreeParts$Thing")), 2, 15, cd_F_turnedBy),
  (RX4, yX4_complementOf, prog_1_method_45_code, 2, (some (.object "FreeParts$Thing")), 2, 15, cd_F_complementOf),
  (RX4, yX4_handlesOf, prog_1_method_46_code, 3, (some .int), 0, 0, cd_F_handlesOf),
  (RX4, yX4_countSheets, prog_1_method_47_code, 6, (some .int), 0, 0, cd_F_countSheets),
  (RX4, yX4_countThings, prog_1_method_48_code, 7, (some .int), 0, 0, cd_F_countThings),
  (RX4, yX4_sizeOf, prog_1_method_49_code, 2, (some .int), 0, 0, cd_F_sizeOf),
  (RX4, yX4_markOf, prog_1_method_50_code, 2, (some .int), 0, 0, cd_F_markOf),
  (RX4, yX4_leaveTrace, prog_1_method_51_code, 2, none, 0, 0, cd_F_leaveTrace),
  (RX4, yX4_body10, prog_1_method_52_code, 2, (some .int), 0, 0, cd_F_body10),
  (RX4, yX4_body11, prog_1_method_53_code, 2, (some .int), 0, 0, cd_F_body11),
  (RX4, yX4_body12, prog_1_method_54_code, 2, (some .int), 0, 0, cd_F_body12),
  (RX4, yX4_body13, prog_1_method_55_code, 3, (some .int), 0, 0, cd_F_body13),
  (RX4, yX4_body14, prog_1_method_56_code, 2, (some .int), 0, 0, cd_F_body14),
  (RX4, yX4_body20, prog_1_method_57_code, 2, (some .int), 0, 0, cd_F_body20),
  (RX4, yX4_body21, prog_1_method_58_code, 2, (some .int), 0, 0, cd_F_body21),
  (RX4, yX4_body22, prog_1_method_59_code, 3, (some .int), 0, 0, cd_F_body22),
  (RX4, yX4_isPrime, prog_1_method_60_code, 2, (some .boolean), 0, 0, cd_F_isPrime),
  (RX4, yX4_power, prog_1_method_61_code, 11, (some .long), 0, 0, cd_F_power),
  (RX4, yX4_multiplyByPowers, prog_1_method_62_code, 11, none, 0, 0, cd_F_multiplyByPowers),
  (RX4, yX4_determinant, prog_1_method_63_code, 6, (some .long), 0, 0, cd_F_determinant),
  (RX4, yX4_swapRows, prog_1_method_64_code, 7, none, 0, 0, cd_F_swapRows),
  (RX4, yX4_clearColumnBelow, prog_1_method_65_code, 9, none, 0, 0, cd_F_clearColumnBelow),
  (RX4, yX4_countPairings, prog_1_method_66_code, 7, none, 0, 0, cd_F_countPairings),
  (RX4, yX4_walkOneStep, prog_1_method_67_code, 7, none, 0, 0, cd_F_walkOneStep),
  (RX5, yX5_in, prog_7_method_2_code, 6, (some .boolean), 0, 0, cd_M_in),
  (RX5, yX5_found, prog_7_method_3_code, 2, (some .int), 0, 0, cd_M_found),
  (RX5, yX5_isPrime, prog_7_method_4_code, 3, (some .boolean), 0, 0, cd_M_isPrime),
  (RX5, yX5_init, prog_7_method_5_code, 3, none, 20, 787, cd_M_init),
  (RX5, yX5_isSheet, prog_7_method_6_code, 1, (some .boolean), 0, 0, cd_M_isSheet),
  (RX5, yX5_sheet, prog_7_method_7_code, 5, (some .int), 0, 0, cd_M_sheet),
  (RX5, yX5_set, prog_7_method_8_code, 5, (some .long), 0, 0, cd_M_set),
  (RX5, yX5_copy, prog_7_method_9_code, 9, (some .int), 0, 0, cd_M_copy),
  (RX5, yX5_drop, prog_7_method_10_code, 2, (some .int), 0, 0, cd_M_drop),
  (RX5, yX5_isPlace, prog_7_method_11_code, 1, (some .boolean), 0, 0, cd_M_isPlace),
  (RX5, yX5_load, prog_7_method_12_code, 4, none, 0, 0, cd_M_load),
  (RX5, yX5_number, prog_7_method_13_code, 7, none, 0, 0, cd_M_relabel),
  (RX5, yX5_crossedAt, prog_7_method_14_code, 7, (some .int), 0, 0, cd_M_crossedAt),
  (RX5, yX5_isFree, prog_7_method_15_code, 3, (some .boolean), 0, 0, cd_M_isFree),
  (RX5, yX5_blocks, prog_7_method_16_code, 5, (some .int), 0, 0, cd_M_blocks),
  (RX5, yX5_sizeOf, prog_7_method_17_code, 6, (some .int), 0, 0, cd_M_sizeOf),
  (RX5, yX5_isOfPairs, prog_7_method_18_code, 5, (some .boolean), 0, 0, cd_M_isOfPairs),
  (RX5, yX5_kindOf, prog_7_method_19_code, 6, (some .int), 0, 0, cd_M_kindOf),
  (RX5, yX5_lay, prog_7_method_20_code, 5, (some .int), 0, 0, cd_M_lay),
  (RX5, yX5_part, prog_7_method_21_code, 7, (some .int), 0, 0, cd_M_part),
  (RX5, yX5_next, prog_7_method_22_code, 6, (some .boolean), 0, 0, cd_M_next),
  (RX5, yX5_nextFree, prog_7_method_23_code, 7, (some .boolean), 0, 0, cd_M_nextFree),
  (RX5, yX5_first, prog_7_method_24_code, 4, none, 0, 0, cd_M_first),
  (RX5, yX5_nth, prog_7_method_25_code, 5, (some .int), 0, 0, cd_M_nth),
  (RX5, yX5_isOf, prog_7_method_26_code, 2, (some .boolean), 0, 0, cd_M_isOf),
  (RX5, yX5_asked, prog_7_method_27_code, 3, (some .int), 0, 0, cd_M_asked),
  (RX5, yX5_both, prog_7_method_28_code, 11, (some .int), 0, 0, cd_M_both),
  (RX5, yX5_mix, prog_7_method_29_code, 5, none, 0, 0, cd_M_mix),
  (RX5, yX5_crossing, prog_7_method_30_code, 10, (some .boolean), 0, 0, cd_M_crossing),
  (RX5, yX5_complement, prog_7_method_31_code, 8, none, 0, 0, cd_M_complement),
  (RX5, yX5_turn, prog_7_method_32_code, 7, (some .int), 0, 0, cd_M_turn),
  (RX5, yX5_clear, prog_7_method_33_code, 3, (some .int), 0, 0, cd_M_clear),
  (RX5, yX5_kind, prog_7_method_34_code, 2, (some .int), 0, 0, cd_M_kind),
  (RX5, yX5_is, prog_7_method_35_code, 3, (some .int), 0, 0, cd_M_is),
  (RX5, yX5_blocksAt, prog_7_method_36_code, 2, (some .int), 0, 0, cd_M_blocksAt),
  (RX5, yX5_as, prog_7_method_37_code, 4, (some .int), 0, 0, cd_M_as),
  (RX5, yX5_began, prog_7_method_38_code, 2, none, 0, 0, cd_M_began),
  (RX5, yX5_plainMark, prog_7_method_39_code, 2, (some .int), 0, 0, cd_M_plainMark),
  (RX5, yX5_sized, prog_7_method_40_code, 4, (some .int), 0, 0, cd_M_sized),
  (RX5, yX5_marked, prog_7_method_41_code, 2, (some .int), 0, 0, cd_M_marked),
  (RX5, yX5_ask, prog_7_method_42_code, 3, (some .int), 0, 0, cd_M_ask),
  (RX5, yX5_trace, prog_7_method_43_code, 2, (some .int), 0, 0, cd_M_trace),
  (RX5, yX5_block, prog_7_method_44_code, 3, (some .int), 0, 0, cd_M_block),
  (RX5, yX5_isFiner, prog_7_method_45_code, 6, (some .boolean), 0, 0, cd_M_isFiner),
  (RX5, yX5_product, prog_7_method_46_code, 7, (some .int), 0, 0, cd_M_product),
  (RX5, yX5_told, prog_7_method_47_code, 9, (some .int), 0, 0, cd_M_told),
  (RX5, yX5_isSame, prog_7_method_48_code, 4, (some .boolean), 0, 0, cd_M_isSame),
  (RX5, yX5_finer, prog_7_method_49_code, 3, (some .int), 0, 0, cd_M_finer),
  (RX5, yX5_handlesBy, prog_7_method_50_code, 8, (some .int), 0, 0, cd_M_handlesBy),
  (RX5, yX5_handlesOf, prog_7_method_51_code, 2, (some .int), 0, 0, cd_M_handlesOf),
  (RX5, yX5_handles, prog_7_method_52_code, 2, (some .int), 0, 0, cd_M_handles),
  (RX5, yX5_isSeries, prog_7_method_53_code, 1, (some .boolean), 0, 0, cd_M_isSeries),
  (RX5, yX5_m, prog_7_method_54_code, 3, (some .long), 0, 0, cd_M_m),
  (RX5, yX5_choose, prog_7_method_55_code, 5, (some .long), 0, 0, cd_M_choose),
  (RX5, yX5_lesser, prog_7_method_56_code, 14, (some .long), 0, 0, cd_M_lesser),
  (RX5, yX5_findCumulants, prog_7_method_57_code, 5, none, 0, 0, cd_M_findCumulants),
  (RX5, yX5_findMoments, prog_7_method_58_code, 6, none, 0, 0, cd_M_findMoments),
  (RX5, yX5_modulo, prog_7_method_59_code, 5, (some .long), 0, 0, cd_M_modulo),
  (RX5, yX5_series, prog_7_method_60_code, 7, (some .int), 0, 0, cd_M_series),
  (RX5, yX5_number_, prog_7_method_61_code, 4, (some .long), 0, 0, cd_M_number),
  (RX5, yX5_join, prog_7_method_62_code, 8, (some .int), 0, 0, cd_M_join),
  (RX5, yX5_mixed, prog_7_method_63_code, 8, (some .long), 0, 0, cd_M_mixed),
  (RX5, yX5_change, prog_7_method_64_code, 9, (some .int), 0, 0, cd_M_change),
  (RX5, yX5_inverse, prog_7_method_65_code, 8, (some .long), 0, 0, cd_M_inverse),
  (RX5, yX5_hankel, prog_7_method_66_code, 14, (some .long), 0, 0, cd_M_hankel),
  (RX5, yX5_same, prog_7_method_67_code, 5, (some .int), 0, 0, cd_M_same),
  (RX5, yX5_findPairings, prog_7_method_68_code, 5, none, 0, 0, cd_M_findPairings),
  (RX5, yX5_genus, prog_7_method_69_code, 3, (some .long), 0, 0, cd_M_genus),
  (RX5, yX5_mean, prog_7_method_70_code, 9, (some .long), 0, 0, cd_M_mean),
  (RX5, yX5_walks, prog_7_method_71_code, 5, (some .long), 0, 0, cd_M_walks),
  (RX5, yX5_count, prog_7_method_72_code, 4, (some .int), 0, 0, cd_M_count),
  (RX5, yX5_status, prog_7_method_73_code, 1, (some .int), 0, 0, cd_M_status),
  (RX0, yX0_init, prog_2_method_1_code, 3, none, 22, 184, cd_C_init),
  (RX0, yX0_toMoments, prog_2_method_2_code, 6, none, 0, 0, cd_C_toMoments),
  (RX0, yX0_ofMoments, prog_2_method_3_code, 6, none, 0, 0, cd_C_ofMoments),
  (RX0, yX0_keepPowers, prog_2_method_4_code, 5, none, 0, 0, cd_C_keepPowers),
  (RX0, yX0_sumOfFiner, prog_2_method_5_code, 12, (some .long), 0, 0, cd_C_sumOfFiner),
  (RX0, yX0_multiply, prog_2_method_6_code, 11, none, 0, 0, cd_C_multiply),
  (RX1, yX1_init, prog_3_method_1_code, 5, none, 13, 142, cd_O_init),
  (RX1, yX1_placeOf, prog_3_method_2_code, 6, (some .int), 0, 0, cd_O_placeOf),
  (RX1, yX1_tell, prog_3_method_3_code, 9, none, 0, 0, cd_O_tell),
  (RX2, yX2_init, prog_4_method_1_code, 3, none, 10, 90, cd_P_init),
  (RX2, yX2_begin, prog_4_method_2_code, 4, none, 0, 0, cd_P_begin),
  (RX2, yX2_add, prog_4_method_3_code, 8, none, 0, 0, cd_P_add),
  (RX2, yX2_at, prog_4_method_4_code, 3, (some .long), 0, 0, cd_P_at),
  (RX2, yX2_weighted, prog_4_method_5_code, 7, (some .long), 0, 0, cd_P_weighted),
  (RX3, yX3_init, prog_5_method_1_code, 3, none, 1, 10, cd_T_init),
  (RX3, yX3_numberBlocks, prog_5_method_2_code, 6, (some .int), 0, 0, cd_T_numberBlocks),
  (RX3, yX3_allInPairs, prog_5_method_3_code, 4, (some .boolean), 0, 0, cd_T_allInPairs),
  (RX3, yX3_pointsIn, prog_5_method_4_code, 5, (some .int), 0, 0, cd_T_pointsIn),
  (RX3, yX3_kindToTell, prog_5_method_5_code, 3, (some .int), 0, 0, cd_T_kindToTell),
  (RX3, yX3_inRows, prog_5_method_6_code, 3, (some .boolean), 0, 0, cd_T_inRows),
  (RX3, yX3_crossesItself, prog_5_method_7_code, 4, (some .boolean), 0, 0, cd_T_crossesItself),
  (RX3, yX3_isCrossed, prog_5_method_8_code, 6, (some .boolean), 0, 0, cd_T_isCrossed),
  (RX3, yX3_isOf, prog_5_method_9_code, 2, (some .boolean), 0, 0, cd_T_isOf),
  (RX3, yX3_isFinerThan, prog_5_method_10_code, 5, (some .boolean), 0, 0, cd_T_isFinerThan),
  (RX3, yX3_productOver, prog_5_method_11_code, 4, (some .int), 0, 0, cd_T_productOver),
  (RX3, yX3_labelRings, prog_5_method_12_code, 4, (some .int), 0, 0, cd_T_labelRings),
  (RX3, yX3_labelRing, prog_5_method_13_code, 6, none, 0, 0, cd_T_labelRing),
  (RX3, yX3_aheadInBlock, prog_5_method_14_code, 4, (some .int), 0, 0, cd_T_aheadInBlock),
  (RL, yL_cell, method_2_code, 2, (some .int), 0, 0, cd_L_cell),
  (RL, x, code, 4, ret, 600000, 7302250, cd_L_law),
  (RJ7, yJ7_fill_53178, prog_10_method_103_code, 4, none, 0, 0, cd_JA_fillI),
  (RJ7, yJ7_fill_d0a16, prog_10_method_101_code, 5, none, 0, 0, cd_JA_fillJ)]
abbrev am_M.own (μ : am_M) : String := μ.1
abbrev am_M.y (μ : am_M) : MethodName := μ.2.1
abbrev am_M.bytes (μ : am_M) : ByteArray := μ.2.2.1
abbrev am_M.nL (μ : am_M) : Nat := μ.2.2.2.1
abbrev am_M.ret (μ : am_M) : Option FieldType := μ.2.2.2.2.1
abbrev am_M.bc (μ : am_M) : Nat := μ.2.2.2.2.2.1
abbrev am_M.bs (μ : am_M) : Nat := μ.2.2.2.2.2.2.1
abbrev am_M.code (μ : am_M) : List CI := μ.2.2.2.2.2.2.2
def am_ilen (ins : Instr) : Nat := match ins with
  | .iload _ | .lload _ | .aload _ | .istore _ | .lstore _ | .astore _ | .bipush _ | .ldc _ | .newarray _ => 2
  | .iinc _ _ | .sipush _ | .ldc_w _ | .ldc2_w _ | .goto _ | .if_icmp _ _ | .ifCond _ _ | .ifnull _ | .ifnonnull _ | .getfield _ | .putfield _ | .getstatic _ | .new _ | .anewarray _ | .invokevirtual _ | .invokestatic _ | .invokespecial _ => 3
  | .multianewarray _ _ => 4
  | _ => 1
def am_isSw (ins : Instr) : Bool := match ins with
  | .tableswitch _ _ _ _ => true
  | _ => false
def am_wd (i : Nat) (w : Jvm.Cond) : Bool := decide (lw_tbl[i]? = some w)
/-- a call's words: of kind 0 by the object, 1 static, 2 a constructor -/
def am_okc (own : String) (kd i : Nat) (aux : List Nat) : Bool := match am_mt[am_nth aux 0]? with
  | some (_, y, bytes, maxL, ret, bc, bs, _) => Nat.beq bc (am_nth aux 3) && (Nat.beq bs (am_nth aux 4) && (am_wd (am_nth aux 5) (.methodLink own i y) && (am_wd (am_nth aux 8) (.code y bytes maxL ret) && (am_wd (am_nth aux 9) (.initialized y.cls) && (Nat.ble maxL 17 && (decide (y.cls ≠ "java/lang/invoke/MethodHandle" ∧ y.cls ≠ "java/lang/invoke/VarHandle") && (match kd with
    | 0 => am_wd (am_nth aux 6) (.instanceMethod y) && (am_wd (am_nth aux 7) (.selects y.cls y y) && (decide (am_RR (am_nth aux 10) = y.cls) && (Nat.blt (am_nth aux 10) 6 && decide ((parseMethodDescriptor y.desc).map (fun d => d.parameters.length + 1) = some (am_nth aux 1)))))
    | 1 => am_wd (am_nth aux 6) (.static y) && decide ((parseMethodDescriptor y.desc).map (fun d => d.parameters.length) = some (am_nth aux 1))
    | _ => am_wd (am_nth aux 6) (.instanceMethod y) && (decide (y.name = "<init>") && (decide (ret = none) && decide ((parseMethodDescriptor y.desc).map (fun d => d.parameters.length + 1) = some (am_nth aux 1)))))))))))
  | none => false
def am_ok2 (own : String) (init : Bool) (ret : Option FieldType) (nL pc : Nat) (ins : Instr) (z : Int) (aux : List Nat) : Bool := match ins with
  | .istore_n i => Nat.blt i.val nL
  | .istore i => Nat.blt i nL
  | .astore_n i => Nat.blt i.val nL
  | .astore i => Nat.blt i nL
  | .lstore_n i => Nat.blt (i.val + 1) nL
  | .lstore i => Nat.blt (i + 1) nL
  | .iinc i _ => Nat.blt i nL
  | .bipush v => decide ((Int8.ofInt v).toInt32 = Int32.ofInt v)
  | .sipush v => decide ((Int16.ofInt v).toInt32 = Int32.ofInt v)
  | .ldc i => am_wd (am_nth aux 0) (.constant own i (Int32.ofInt z))
  | .ldc_w i => am_wd (am_nth aux 0) (.constant own i (Int32.ofInt z))
  | .ldc2_w i => am_wd (am_nth aux 0) (.constantLong own i (Int64.ofInt z))
  | .goto v => decide ((pc : Int) + v = (am_nth aux 0 : Int))
  | .if_icmp _ v => decide ((pc : Int) + v = (am_nth aux 0 : Int))
  | .ifCond _ v => decide ((pc : Int) + v = (am_nth aux 0 : Int))
  | .ifnull v => decide ((pc : Int) + v = (am_nth aux 0 : Int))
  | .ifnonnull v => decide ((pc : Int) + v = (am_nth aux 0 : Int))
  | .tableswitch d lo hi offs => decide (lo = z) && (decide ((pc : Int) + d = (am_nth aux 0 : Int)) && (decide (offs.toList.map (fun o => (pc : Int) + o) = (aux.drop 1).map (fun t : Nat => (t : Int))) && decide (hi = lo + (aux.drop 1).length - 1)))
  | .lconst v => decide (z = (v.val : Int))
  | .getfield i => decide (z = (am_nth aux 0 : Int)) && (Nat.blt (am_nth aux 0) (am_NN (am_nth aux 2)) && (Nat.beq (am_fk (am_nth aux 2) (am_nth aux 0)) (am_nth aux 1) && (am_wd (am_nth aux 3) (.fieldLink own i (am_TT (am_nth aux 2) (am_nth aux 0)).1 (am_TT (am_nth aux 2) (am_nth aux 0)).2.1 (am_TT (am_nth aux 2) (am_nth aux 0)).2.2.1))))
  | .putfield i => decide (z = (am_nth aux 0 : Int)) && (Nat.blt (am_nth aux 0) (am_NN (am_nth aux 2)) && (Nat.beq (am_fk (am_nth aux 2) (am_nth aux 0)) (am_nth aux 1) && (am_wd (am_nth aux 3) (.fieldLink own i (am_TT (am_nth aux 2) (am_nth aux 0)).1 (am_TT (am_nth aux 2) (am_nth aux 0)).2.1 (am_TT (am_nth aux 2) (am_nth aux 0)).2.2.1) && (!(am_TT (am_nth aux 2) (am_nth aux 0)).2.2.2 || (init && decide ((am_TT (am_nth aux 2) (am_nth aux 0)).1 = own))))))
  | .getstatic i => (Nat.beq (am_nth aux 0) 1 && am_wd (am_nth aux 1) (.fieldLink own i "FreeParts" "FREE_ONES" "[I")) || (Nat.beq (am_nth aux 0) 2 && am_wd (am_nth aux 1) (.fieldLink own i "FreeParts" "WEIGHTS" "[I"))
  | .new i => am_wd (am_nth aux 1) (.classLink own i (am_RR (am_nth aux 0))) && (am_wd (am_nth aux 2) (.instantiable (am_RR (am_nth aux 0)) (am_NN (am_nth aux 0))) && am_wd (am_nth aux 3) (.initialized (am_RR (am_nth aux 0))))
  | .anewarray i => am_wd (am_nth aux 0) (.classLink own i RX3)
  | .multianewarray i d => Nat.beq d 2 && ((Nat.beq (am_nth aux 0) 1 && (am_wd (am_nth aux 1) (.classLink own i ("[" ++ (FieldType.array .long).toString)) && am_wd (am_nth aux 2) (.arrayClass .long))) || (Nat.beq (am_nth aux 0) 0 && (am_wd (am_nth aux 1) (.classLink own i ("[" ++ (FieldType.array .int).toString)) && am_wd (am_nth aux 2) (.arrayClass .int))))
  | .newarray a => (Nat.beq (am_nth aux 0) 0 && decide (a = .int) || Nat.beq (am_nth aux 0) 1 && decide (a = .long) || Nat.beq (am_nth aux 0) 2 && decide (a = .boolean)) && am_wd (am_nth aux 1) (.arrayClass (newarray.typeOf a))
  | .invokevirtual i => am_okc own 0 i aux
  | .invokestatic i => (match Nat.beq (am_nth aux 0) 1000 with
    | true => am_wd (am_nth aux 5) (.methodLink own i arraycopyName) && (am_wd (am_nth aux 6) (.native arraycopyName) && (am_wd (am_nth aux 7) (.static arraycopyName) && am_wd (am_nth aux 8) (.initialized "java/lang/System")))
    | false => (match Nat.ble 1002 (am_nth aux 0) with
      | true => (match Nat.beq (am_nth aux 0) 1002 with
        | true => am_wd (am_nth aux 5) (.methodLink own i Lib.Math.max.name) && (am_wd (am_nth aux 6) (.static Lib.Math.max.name) && (am_wd (am_nth aux 8) (.code Lib.Math.max.name Lib.Math.max.code 2 (some .int)) && am_wd (am_nth aux 9) (.initialized "java/lang/Math")))
        | false => (match Nat.beq (am_nth aux 0) 1003 with
          | true => am_wd (am_nth aux 5) (.methodLink own i Lib.Math.min.name) && (am_wd (am_nth aux 6) (.static Lib.Math.min.name) && (am_wd (am_nth aux 8) (.code Lib.Math.min.name Lib.Math.min.code 2 (some .int)) && am_wd (am_nth aux 9) (.initialized "java/lang/Math")))
          | false => am_wd (am_nth aux 5) (.methodLink own i Jvm.Free.JP.Math_floorMod_JJ.yN) && (am_wd (am_nth aux 6) (.static Jvm.Free.JP.Math_floorMod_JJ.yN) && (am_wd (am_nth aux 8) (.code Jvm.Free.JP.Math_floorMod_JJ.yN Jvm.Free.JP.Math_floorMod_JJ.yB 6 (some .long)) && am_wd (am_nth aux 9) (.initialized "java/lang/Math")))))
      | false => am_okc own 1 i aux))
  | .invokespecial i => (match Nat.beq (am_nth aux 0) 1001 with
    | true => am_wd (am_nth aux 5) (.methodLink own i Lib.objectInit) && (am_wd (am_nth aux 6) (.instanceMethod Lib.objectInit) && am_wd (am_nth aux 7) (.code Lib.objectInit ⟨#[0xb1]⟩ 1 none))
    | false => am_okc own 2 i aux)
  | .ireturn => decide (ret = some .int ∨ ret = some .boolean)
  | .lreturn => decide (ret = some .long)
  | .areturn => decide (ret = some (.object RX3))
  | .return_ => decide (ret = none)
  | _ => true
def am_ok1 (own : String) (init : Bool) (ret : Option FieldType) (bytes : ByteArray) (nL : Nat) (q : CI) : Bool := decide (decode bytes q.2.1 = .ok (q.2.2.1, q.2.2.2.1)) && ((am_isSw q.2.2.1 || Nat.beq q.2.2.2.1 (am_ilen q.2.2.1)) && am_ok2 own init ret nL q.2.1 q.2.2.1 q.2.2.2.2.1 q.2.2.2.2.2)
def am_lin : List CI → Bool
  | [] => true
  | q :: l => (match l with
    | [] => true
    | q2 :: _ => Nat.beq (q.2.1 + q.2.2.2.1) q2.2.1) && am_lin l
def am_chk (ix : Nat) : Bool := match am_mt[ix]? with
  | some μ => (am_M.code μ).all (am_ok1 (am_M.own μ) (decide ((am_M.y μ).name = "<init>")) (am_M.ret μ) (am_M.bytes μ) (am_M.nL μ)) && (am_lin (am_M.code μ) && (decide ((am_M.y μ).cls = am_M.own μ) && plainName (am_M.y μ).cls))
  | none => false
