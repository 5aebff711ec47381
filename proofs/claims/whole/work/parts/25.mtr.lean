theorem mt_F_init : am_mt[0]? = some (RX4, yX4_init, prog_1_method_1_code, 4, none, 82, 938, cd_F_init) := rfl
theorem mt_F_sheet : am_mt[1]? = some (RX4, yX4_sheet, prog_1_method_2_code, 4, (some .int), 0, 0, cd_F_sheet) := rfl
theorem mt_F_set : am_mt[2]? = some (RX4, yX4_set, prog_1_method_3_code, 5, (some .long), 0, 0, cd_F_set) := rfl
theorem mt_F_copy : am_mt[3]? = some (RX4, yX4_copy, prog_1_method_4_code, 6, (some .int), 0, 0, cd_F_copy) := rfl
theorem mt_F_drop : am_mt[4]? = some (RX4, yX4_drop, prog_1_method_5_code, 3, (some .int), 0, 0, cd_F_drop) := rfl
theorem mt_F_part : am_mt[5]? = some (RX4, yX4_part, prog_1_method_6_code, 5, (some .int), 2, 15, cd_F_part) := rfl
theorem mt_F_nth : am_mt[6]? = some (RX4, yX4_nth, prog_1_method_7_code, 4, (some .int), 2, 15, cd_F_nth) := rfl
theorem mt_F_both : am_mt[7]? = some (RX4, yX4_both, prog_1_method_8_code, 7, (some .int), 10, 75, cd_F_both) := rfl
theorem mt_F_turn : am_mt[8]? = some (RX4, yX4_turn, prog_1_method_9_code, 5, (some .int), 2, 15, cd_F_turn) := rfl
theorem mt_F_clear : am_mt[9]? = some (RX4, yX4_clear, prog_1_method_10_code, 3, (some .int), 0, 0, cd_F_clear) := rfl
theorem mt_F_kind : am_mt[10]? = some (RX4, yX4_kind, prog_1_method_11_code, 3, (some .int), 0, 0, cd_F_kind) := rfl
theorem mt_F_is : am_mt[11]? = some (RX4, yX4_is, prog_1_method_12_code, 4, (some .int), 0, 0, cd_F_is) := rfl
theorem mt_F_as : am_mt[12]? = some (RX4, yX4_as, prog_1_method_13_code, 4, (some .int), 0, 0, cd_F_as) := rfl
theorem mt_F_ask : am_mt[13]? = some (RX4, yX4_ask, prog_1_method_14_code, 4, (some .int), 0, 0, cd_F_ask) := rfl
theorem mt_F_trace : am_mt[14]? = some (RX4, yX4_trace, prog_1_method_15_code, 2, (some .int), 0, 0, cd_F_trace) := rfl
theorem mt_F_block : am_mt[15]? = some (RX4, yX4_block, prog_1_method_16_code, 4, (some .int), 0, 0, cd_F_block) := rfl
theorem mt_F_told : am_mt[16]? = some (RX4, yX4_told, prog_1_method_17_code, 4, (some .int), 2, 15, cd_F_told) := rfl
theorem mt_F_finer : am_mt[17]? = some (RX4, yX4_finer, prog_1_method_18_code, 5, (some .int), 0, 0, cd_F_finer) := rfl
theorem mt_F_handles : am_mt[18]? = some (RX4, yX4_handles, prog_1_method_19_code, 3, (some .int), 0, 0, cd_F_handles) := rfl
theorem mt_F_series : am_mt[19]? = some (RX4, yX4_series, prog_1_method_20_code, 7, (some .int), 0, 0, cd_F_series) := rfl
theorem mt_F_number : am_mt[20]? = some (RX4, yX4_number, prog_1_method_21_code, 4, (some .long), 0, 0, cd_F_number) := rfl
theorem mt_F_join : am_mt[21]? = some (RX4, yX4_join, prog_1_method_22_code, 8, (some .int), 0, 0, cd_F_join) := rfl
theorem mt_F_change : am_mt[22]? = some (RX4, yX4_change, prog_1_method_23_code, 6, (some .int), 0, 0, cd_F_change) := rfl
theorem mt_F_hankel : am_mt[23]? = some (RX4, yX4_hankel, prog_1_method_24_code, 4, (some .long), 0, 0, cd_F_hankel) := rfl
theorem mt_F_same : am_mt[24]? = some (RX4, yX4_same, prog_1_method_25_code, 4, (some .int), 0, 0, cd_F_same) := rfl
theorem mt_F_genus : am_mt[25]? = some (RX4, yX4_genus, prog_1_method_26_code, 3, (some .long), 0, 0, cd_F_genus) := rfl
theorem mt_F_mean : am_mt[26]? = some (RX4, yX4_mean, prog_1_method_27_code, 6, (some .long), 0, 0, cd_F_mean) := rfl
theorem mt_F_walks : am_mt[27]? = some (RX4, yX4_walks, prog_1_method_28_code, 4, (some .long), 0, 0, cd_F_walks) := rfl
theorem mt_F_count : am_mt[28]? = some (RX4, yX4_count, prog_1_method_29_code, 2, (some .int), 0, 0, cd_F_count) := rfl
theorem mt_F_status : am_mt[29]? = some (RX4, yX4_status, prog_1_method_30_code, 1, (some .int), 0, 0, cd_F_status) := rfl
theorem mt_F_noSheet : am_mt[30]? = some (RX4, yX4_noSheet, prog_1_method_31_code, 1, (some .boolean), 0, 0, cd_F_noSheet) := rfl
theorem mt_F_noPlace : am_mt[31]? = some (RX4, yX4_noPlace, prog_1_method_32_code, 1, (some .boolean), 0, 0, cd_F_noPlace) := rfl
theorem mt_F_noSeries : am_mt[32]? = some (RX4, yX4_noSeries, prog_1_method_33_code, 1, (some .boolean), 0, 0, cd_F_noSeries) := rfl
theorem mt_F_noSort : am_mt[33]? = some (RX4, yX4_noSort, prog_1_method_34_code, 1, (some .boolean), 0, 0, cd_F_noSort) := rfl
theorem mt_F_noPairs : am_mt[34]? = some (RX4, yX4_noPairs, prog_1_method_35_code, 1, (some .boolean), 0, 0, cd_F_noPairs) := rfl
theorem mt_F_noRun : am_mt[35]? = some (RX4, yX4_noRun, prog_1_method_36_code, 4, (some .boolean), 0, 0, cd_F_noRun) := rfl
theorem mt_F_finding : am_mt[36]? = some (RX4, yX4_finding, prog_1_method_37_code, 2, (some .int), 0, 0, cd_F_finding) := rfl
theorem mt_F_fine : am_mt[37]? = some (RX4, yX4_fine, prog_1_method_38_code, 2, (some .int), 0, 0, cd_F_fine) := rfl
theorem mt_F_lowestBits : am_mt[38]? = some (RX4, yX4_lowestBits, prog_1_method_39_code, 3, (some .long), 0, 0, cd_F_lowestBits) := rfl
theorem mt_F_labelLikeItems : am_mt[39]? = some (RX4, yX4_labelLikeItems, prog_1_method_40_code, 6, none, 0, 0, cd_F_labelLikeItems) := rfl
theorem mt_F_shelve : am_mt[40]? = some (RX4, yX4_shelve, prog_1_method_41_code, 3, (some .int), 0, 0, cd_F_shelve) := rfl
theorem mt_F_meetOf : am_mt[41]? = some (RX4, yX4_meetOf, prog_1_method_42_code, 4, (some (.object "FreeParts$Thing")), 2, 15, cd_F_meetOf) := rfl
theorem mt_F_joinOf : am_mt[42]? = some (RX4, yX4_joinOf, prog_1_method_43_code, 4, (some (.object "FreeParts$Thing")), 10, 75, cd_F_joinOf) := rfl
theorem mt_F_turnedBy : am_mt[43]? = some (RX4, yX4_turnedBy, prog_1_method_44_code, 5, (some (.object "FreeParts$Thing")), 2, 15, cd_F_turnedBy) := rfl
theorem mt_F_complementOf : am_mt[44]? = some (RX4, yX4_complementOf, prog_1_method_45_code, 2, (some (.object "FreeParts$Thing")), 2, 15, cd_F_complementOf) := rfl
theorem mt_F_handlesOf : am_mt[45]? = some (RX4, yX4_handlesOf, prog_1_method_46_code, 3, (some .int), 0, 0, cd_F_handlesOf) := rfl
theorem mt_F_countSheets : am_mt[46]? = some (RX4, yX4_countSheets, prog_1_method_47_code, 6, (some .int), 0, 0, cd_F_countSheets) := rfl
theorem mt_F_countThings : am_mt[47]? = some (RX4, yX4_countThings, prog_1_method_48_code, 7, (some .int), 0, 0, cd_F_countThings) := rfl
theorem mt_F_sizeOf : am_mt[48]? = some (RX4, yX4_sizeOf, prog_1_method_49_code, 2, (some .int), 0, 0, cd_F_sizeOf) := rfl
theorem mt_F_markOf : am_mt[49]? = some (RX4, yX4_markOf, prog_1_method_50_code, 2, (some .int), 0, 0, cd_F_markOf) := rfl
theorem mt_F_leaveTrace : am_mt[50]? = some (RX4, yX4_leaveTrace, prog_1_method_51_code, 2, none, 0, 0, cd_F_leaveTrace) := rfl
theorem mt_F_body10 : am_mt[51]? = some (RX4, yX4_body10, prog_1_method_52_code, 2, (some .int), 0, 0, cd_F_body10) := rfl
theorem mt_F_body11 : am_mt[52]? = some (RX4, yX4_body11, prog_1_method_53_code, 2, (some .int), 0, 0, cd_F_body11) := rfl
theorem mt_F_body12 : am_mt[53]? = some (RX4, yX4_body12, prog_1_method_54_code, 2, (some .int), 0, 0, cd_F_body12) := rfl
theorem mt_F_body13 : am_mt[54]? = some (RX4, yX4_body13, prog_1_method_55_code, 3, (some .int), 0, 0, cd_F_body13) := rfl
theorem mt_F_body14 : am_mt[55]? = some (RX4, yX4_body14, prog_1_method_56_code, 2, (some .int), 0, 0, cd_F_body14) := rfl
theorem mt_F_body20 : am_mt[56]? = some (RX4, yX4_body20, prog_1_method_57_code, 2, (some .int), 0, 0, cd_F_body20) := rfl
theorem mt_F_body21 : am_mt[57]? = some (RX4, yX4_body21, prog_1_method_58_code, 2, (some .int), 0, 0, cd_F_body21) := rfl
theorem mt_F_body22 : am_mt[58]? = some (RX4, yX4_body22, prog_1_method_59_code, 3, (some .int), 0, 0, cd_F_body22) := rfl
theorem mt_F_isPrime : am_mt[59]? = some (RX4, yX4_isPrime, prog_1_method_60_code, 2, (some .boolean), 0, 0, cd_F_isPrime) := rfl
theorem mt_F_power : am_mt[60]? = some (RX4, yX4_power, prog_1_method_61_code, 11, (some .long), 0, 0, cd_F_power) := rfl
theorem mt_F_multiplyByPowers : am_mt[61]? = some (RX4, yX4_multiplyByPowers, prog_1_method_62_code, 11, none, 0, 0, cd_F_multiplyByPowers) := rfl
theorem mt_F_determinant : am_mt[62]? = some (RX4, yX4_determinant, prog_1_method_63_code, 6, (some .long), 0, 0, cd_F_determinant) := rfl
theorem mt_F_swapRows : am_mt[63]? = some (RX4, yX4_swapRows, prog_1_method_64_code, 7, none, 0, 0, cd_F_swapRows) := rfl
theorem mt_F_clearColumnBelow : am_mt[64]? = some (RX4, yX4_clearColumnBelow, prog_1_method_65_code, 9, none, 0, 0, cd_F_clearColumnBelow) := rfl
theorem mt_F_countPairings : am_mt[65]? = some (RX4, yX4_countPairings, prog_1_method_66_code, 7, none, 0, 0, cd_F_countPairings) := rfl
theorem mt_F_walkOneStep : am_mt[66]? = some (RX4, yX4_walkOneStep, prog_1_method_67_code, 7, none, 0, 0, cd_F_walkOneStep) := rfl
theorem mt_M_in : am_mt[67]? = some (RX5, yX5_in, prog_7_method_2_code, 6, (some .boolean), 0, 0, cd_M_in) := rfl
theorem mt_M_found : am_mt[68]? = some (RX5, yX5_found, prog_7_method_3_code, 2, (some .int), 0, 0, cd_M_found) := rfl
theorem mt_M_isPrime : am_mt[69]? = some (RX5, yX5_isPrime, prog_7_method_4_code, 3, (some .boolean), 0, 0, cd_M_isPrime) := rfl
theorem mt_M_init : am_mt[70]? = some (RX5, yX5_init, prog_7_method_5_code, 3, none, 20, 787, cd_M_init) := rfl
theorem mt_M_isSheet : am_mt[71]? = some (RX5, yX5_isSheet, prog_7_method_6_code, 1, (some .boolean), 0, 0, cd_M_isSheet) := rfl
theorem mt_M_sheet : am_mt[72]? = some (RX5, yX5_sheet, prog_7_method_7_code, 5, (some .int), 0, 0, cd_M_sheet) := rfl
theorem mt_M_set : am_mt[73]? = some (RX5, yX5_set, prog_7_method_8_code, 5, (some .long), 0, 0, cd_M_set) := rfl
theorem mt_M_copy : am_mt[74]? = some (RX5, yX5_copy, prog_7_method_9_code, 9, (some .int), 0, 0, cd_M_copy) := rfl
theorem mt_M_drop : am_mt[75]? = some (RX5, yX5_drop, prog_7_method_10_code, 2, (some .int), 0, 0, cd_M_drop) := rfl
theorem mt_M_isPlace : am_mt[76]? = some (RX5, yX5_isPlace, prog_7_method_11_code, 1, (some .boolean), 0, 0, cd_M_isPlace) := rfl
theorem mt_M_load : am_mt[77]? = some (RX5, yX5_load, prog_7_method_12_code, 4, none, 0, 0, cd_M_load) := rfl
theorem mt_M_relabel : am_mt[78]? = some (RX5, yX5_number, prog_7_method_13_code, 7, none, 0, 0, cd_M_relabel) := rfl
theorem mt_M_crossedAt : am_mt[79]? = some (RX5, yX5_crossedAt, prog_7_method_14_code, 7, (some .int), 0, 0, cd_M_crossedAt) := rfl
theorem mt_M_isFree : am_mt[80]? = some (RX5, yX5_isFree, prog_7_method_15_code, 3, (some .boolean), 0, 0, cd_M_isFree) := rfl
theorem mt_M_blocks : am_mt[81]? = some (RX5, yX5_blocks, prog_7_method_16_code, 5, (some .int), 0, 0, cd_M_blocks) := rfl
theorem mt_M_sizeOf : am_mt[82]? = some (RX5, yX5_sizeOf, prog_7_method_17_code, 6, (some .int), 0, 0, cd_M_sizeOf) := rfl
theorem mt_M_isOfPairs : am_mt[83]? = some (RX5, yX5_isOfPairs, prog_7_method_18_code, 5, (some .boolean), 0, 0, cd_M_isOfPairs) := rfl
theorem mt_M_kindOf : am_mt[84]? = some (RX5, yX5_kindOf, prog_7_method_19_code, 6, (some .int), 0, 0, cd_M_kindOf) := rfl
theorem mt_M_lay : am_mt[85]? = some (RX5, yX5_lay, prog_7_method_20_code, 5, (some .int), 0, 0, cd_M_lay) := rfl
theorem mt_M_part : am_mt[86]? = some (RX5, yX5_part, prog_7_method_21_code, 7, (some .int), 0, 0, cd_M_part) := rfl
theorem mt_M_next : am_mt[87]? = some (RX5, yX5_next, prog_7_method_22_code, 6, (some .boolean), 0, 0, cd_M_next) := rfl
theorem mt_M_nextFree : am_mt[88]? = some (RX5, yX5_nextFree, prog_7_method_23_code, 7, (some .boolean), 0, 0, cd_M_nextFree) := rfl
theorem mt_M_first : am_mt[89]? = some (RX5, yX5_first, prog_7_method_24_code, 4, none, 0, 0, cd_M_first) := rfl
theorem mt_M_nth : am_mt[90]? = some (RX5, yX5_nth, prog_7_method_25_code, 5, (some .int), 0, 0, cd_M_nth) := rfl
theorem mt_M_isOf : am_mt[91]? = some (RX5, yX5_isOf, prog_7_method_26_code, 2, (some .boolean), 0, 0, cd_M_isOf) := rfl
theorem mt_M_asked : am_mt[92]? = some (RX5, yX5_asked, prog_7_method_27_code, 3, (some .int), 0, 0, cd_M_asked) := rfl
theorem mt_M_both : am_mt[93]? = some (RX5, yX5_both, prog_7_method_28_code, 11, (some .int), 0, 0, cd_M_both) := rfl
theorem mt_M_mix : am_mt[94]? = some (RX5, yX5_mix, prog_7_method_29_code, 5, none, 0, 0, cd_M_mix) := rfl
theorem mt_M_crossing : am_mt[95]? = some (RX5, yX5_crossing, prog_7_method_30_code, 10, (some .boolean), 0, 0, cd_M_crossing) := rfl
theorem mt_M_complement : am_mt[96]? = some (RX5, yX5_complement, prog_7_method_31_code, 8, none, 0, 0, cd_M_complement) := rfl
theorem mt_M_turn : am_mt[97]? = some (RX5, yX5_turn, prog_7_method_32_code, 7, (some .int), 0, 0, cd_M_turn) := rfl
theorem mt_M_clear : am_mt[98]? = some (RX5, yX5_clear, prog_7_method_33_code, 3, (some .int), 0, 0, cd_M_clear) := rfl
theorem mt_M_kind : am_mt[99]? = some (RX5, yX5_kind, prog_7_method_34_code, 2, (some .int), 0, 0, cd_M_kind) := rfl
theorem mt_M_is : am_mt[100]? = some (RX5, yX5_is, prog_7_method_35_code, 3, (some .int), 0, 0, cd_M_is) := rfl
theorem mt_M_blocksAt : am_mt[101]? = some (RX5, yX5_blocksAt, prog_7_method_36_code, 2, (some .int), 0, 0, cd_M_blocksAt) := rfl
theorem mt_M_as : am_mt[102]? = some (RX5, yX5_as, prog_7_method_37_code, 4, (some .int), 0, 0, cd_M_as) := rfl
theorem mt_M_began : am_mt[103]? = some (RX5, yX5_began, prog_7_method_38_code, 2, none, 0, 0, cd_M_began) := rfl
theorem mt_M_plainMark : am_mt[104]? = some (RX5, yX5_plainMark, prog_7_method_39_code, 2, (some .int), 0, 0, cd_M_plainMark) := rfl
theorem mt_M_sized : am_mt[105]? = some (RX5, yX5_sized, prog_7_method_40_code, 4, (some .int), 0, 0, cd_M_sized) := rfl
theorem mt_M_marked : am_mt[106]? = some (RX5, yX5_marked, prog_7_method_41_code, 2, (some .int), 0, 0, cd_M_marked) := rfl
theorem mt_M_ask : am_mt[107]? = some (RX5, yX5_ask, prog_7_method_42_code, 3, (some .int), 0, 0, cd_M_ask) := rfl
theorem mt_M_trace : am_mt[108]? = some (RX5, yX5_trace, prog_7_method_43_code, 2, (some .int), 0, 0, cd_M_trace) := rfl
theorem mt_M_block : am_mt[109]? = some (RX5, yX5_block, prog_7_method_44_code, 3, (some .int), 0, 0, cd_M_block) := rfl
theorem mt_M_isFiner : am_mt[110]? = some (RX5, yX5_isFiner, prog_7_method_45_code, 6, (some .boolean), 0, 0, cd_M_isFiner) := rfl
theorem mt_M_product : am_mt[111]? = some (RX5, yX5_product, prog_7_method_46_code, 7, (some .int), 0, 0, cd_M_product) := rfl
theorem mt_M_told : am_mt[112]? = some (RX5, yX5_told, prog_7_method_47_code, 9, (some .int), 0, 0, cd_M_told) := rfl
theorem mt_M_isSame : am_mt[113]? = some (RX5, yX5_isSame, prog_7_method_48_code, 4, (some .boolean), 0, 0, cd_M_isSame) := rfl
theorem mt_M_finer : am_mt[114]? = some (RX5, yX5_finer, prog_7_method_49_code, 3, (some .int), 0, 0, cd_M_finer) := rfl
theorem mt_M_handlesBy : am_mt[115]? = some (RX5, yX5_handlesBy, prog_7_method_50_code, 8, (some .int), 0, 0, cd_M_handlesBy) := rfl
theorem mt_M_handlesOf : am_mt[116]? = some (RX5, yX5_handlesOf, prog_7_method_51_code, 2, (some .int), 0, 0, cd_M_handlesOf) := rfl
theorem mt_M_handles : am_mt[117]? = some (RX5, yX5_handles, prog_7_method_52_code, 2, (some .int), 0, 0, cd_M_handles) := rfl
theorem mt_M_isSeries : am_mt[118]? = some (RX5, yX5_isSeries, prog_7_method_53_code, 1, (some .boolean), 0, 0, cd_M_isSeries) := rfl
theorem mt_M_m : am_mt[119]? = some (RX5, yX5_m, prog_7_method_54_code, 3, (some .long), 0, 0, cd_M_m) := rfl
theorem mt_M_choose : am_mt[120]? = some (RX5, yX5_choose, prog_7_method_55_code, 5, (some .long), 0, 0, cd_M_choose) := rfl
theorem mt_M_lesser : am_mt[121]? = some (RX5, yX5_lesser, prog_7_method_56_code, 14, (some .long), 0, 0, cd_M_lesser) := rfl
theorem mt_M_findCumulants : am_mt[122]? = some (RX5, yX5_findCumulants, prog_7_method_57_code, 5, none, 0, 0, cd_M_findCumulants) := rfl
theorem mt_M_findMoments : am_mt[123]? = some (RX5, yX5_findMoments, prog_7_method_58_code, 6, none, 0, 0, cd_M_findMoments) := rfl
theorem mt_M_modulo : am_mt[124]? = some (RX5, yX5_modulo, prog_7_method_59_code, 5, (some .long), 0, 0, cd_M_modulo) := rfl
theorem mt_M_series : am_mt[125]? = some (RX5, yX5_series, prog_7_method_60_code, 7, (some .int), 0, 0, cd_M_series) := rfl
theorem mt_M_number : am_mt[126]? = some (RX5, yX5_number_, prog_7_method_61_code, 4, (some .long), 0, 0, cd_M_number) := rfl
theorem mt_M_join : am_mt[127]? = some (RX5, yX5_join, prog_7_method_62_code, 8, (some .int), 0, 0, cd_M_join) := rfl
theorem mt_M_mixed : am_mt[128]? = some (RX5, yX5_mixed, prog_7_method_63_code, 8, (some .long), 0, 0, cd_M_mixed) := rfl
theorem mt_M_change : am_mt[129]? = some (RX5, yX5_change, prog_7_method_64_code, 9, (some .int), 0, 0, cd_M_change) := rfl
theorem mt_M_inverse : am_mt[130]? = some (RX5, yX5_inverse, prog_7_method_65_code, 8, (some .long), 0, 0, cd_M_inverse) := rfl
theorem mt_M_hankel : am_mt[131]? = some (RX5, yX5_hankel, prog_7_method_66_code, 14, (some .long), 0, 0, cd_M_hankel) := rfl
theorem mt_M_same : am_mt[132]? = some (RX5, yX5_same, prog_7_method_67_code, 5, (some .int), 0, 0, cd_M_same) := rfl
theorem mt_M_findPairings : am_mt[133]? = some (RX5, yX5_findPairings, prog_7_method_68_code, 5, none, 0, 0, cd_M_findPairings) := rfl
theorem mt_M_genus : am_mt[134]? = some (RX5, yX5_genus, prog_7_method_69_code, 3, (some .long), 0, 0, cd_M_genus) := rfl
theorem mt_M_mean : am_mt[135]? = some (RX5, yX5_mean, prog_7_method_70_code, 9, (some .long), 0, 0, cd_M_mean) := rfl
theorem mt_M_walks : am_mt[136]? = some (RX5, yX5_walks, prog_7_method_71_code, 5, (some .long), 0, 0, cd_M_walks) := rfl
theorem mt_M_count : am_mt[137]? = some (RX5, yX5_count, prog_7_method_72_code, 4, (some .int), 0, 0, cd_M_count) := rfl
theorem mt_M_status : am_mt[138]? = some (RX5, yX5_status, prog_7_method_73_code, 1, (some .int), 0, 0, cd_M_status) := rfl
theorem mt_C_init : am_mt[139]? = some (RX0, yX0_init, prog_2_method_1_code, 3, none, 22, 184, cd_C_init) := rfl
theorem mt_C_toMoments : am_mt[140]? = some (RX0, yX0_toMoments, prog_2_method_2_code, 6, none, 0, 0, cd_C_toMoments) := rfl
theorem mt_C_ofMoments : am_mt[141]? = some (RX0, yX0_ofMoments, prog_2_method_3_code, 6, none, 0, 0, cd_C_ofMoments) := rfl
theorem mt_C_keepPowers : am_mt[142]? = some (RX0, yX0_keepPowers, prog_2_method_4_code, 5, none, 0, 0, cd_C_keepPowers) := rfl
theorem mt_C_sumOfFiner : am_mt[143]? = some (RX0, yX0_sumOfFiner, prog_2_method_5_code, 12, (some .long), 0, 0, cd_C_sumOfFiner) := rfl
theorem mt_C_multiply : am_mt[144]? = some (RX0, yX0_multiply, prog_2_method_6_code, 11, none, 0, 0, cd_C_multiply) := rfl
theorem mt_O_init : am_mt[145]? = some (RX1, yX1_init, prog_3_method_1_code, 5, none, 13, 142, cd_O_init) := rfl
theorem mt_O_placeOf : am_mt[146]? = some (RX1, yX1_placeOf, prog_3_method_2_code, 6, (some .int), 0, 0, cd_O_placeOf) := rfl
theorem mt_O_tell : am_mt[147]? = some (RX1, yX1_tell, prog_3_method_3_code, 9, none, 0, 0, cd_O_tell) := rfl
theorem mt_P_init : am_mt[148]? = some (RX2, yX2_init, prog_4_method_1_code, 3, none, 10, 90, cd_P_init) := rfl
theorem mt_P_begin : am_mt[149]? = some (RX2, yX2_begin, prog_4_method_2_code, 4, none, 0, 0, cd_P_begin) := rfl
theorem mt_P_add : am_mt[150]? = some (RX2, yX2_add, prog_4_method_3_code, 8, none, 0, 0, cd_P_add) := rfl
theorem mt_P_at : am_mt[151]? = some (RX2, yX2_at, prog_4_method_4_code, 3, (some .long), 0, 0, cd_P_at) := rfl
theorem mt_P_weighted : am_mt[152]? = some (RX2, yX2_weighted, prog_4_method_5_code, 7, (some .long), 0, 0, cd_P_weighted) := rfl
theorem mt_T_init : am_mt[153]? = some (RX3, yX3_init, prog_5_method_1_code, 3, none, 1, 10, cd_T_init) := rfl
theorem mt_T_numberBlocks : am_mt[154]? = some (RX3, yX3_numberBlocks, prog_5_method_2_code, 6, (some .int), 0, 0, cd_T_numberBlocks) := rfl
theorem mt_T_allInPairs : am_mt[155]? = some (RX3, yX3_allInPairs, prog_5_method_3_code, 4, (some .boolean), 0, 0, cd_T_allInPairs) := rfl
theorem mt_T_pointsIn : am_mt[156]? = some (RX3, yX3_pointsIn, prog_5_method_4_code, 5, (some .int), 0, 0, cd_T_pointsIn) := rfl
theorem mt_T_kindToTell : am_mt[157]? = some (RX3, yX3_kindToTell, prog_5_method_5_code, 3, (some .int), 0, 0, cd_T_kindToTell) := rfl
theorem mt_T_inRows : am_mt[158]? = some (RX3, yX3_inRows, prog_5_method_6_code, 3, (some .boolean), 0, 0, cd_T_inRows) := rfl
theorem mt_T_crossesItself : am_mt[159]? = some (RX3, yX3_crossesItself, prog_5_method_7_code, 4, (some .boolean), 0, 0, cd_T_crossesItself) := rfl
theorem mt_T_isCrossed : am_mt[160]? = some (RX3, yX3_isCrossed, prog_5_method_8_code, 6, (some .boolean), 0, 0, cd_T_isCrossed) := rfl
theorem mt_T_isOf : am_mt[161]? = some (RX3, yX3_isOf, prog_5_method_9_code, 2, (some .boolean), 0, 0, cd_T_isOf) := rfl
theorem mt_T_isFinerThan : am_mt[162]? = some (RX3, yX3_isFinerThan, prog_5_method_10_code, 5, (some .boolean), 0, 0, cd_T_isFinerThan) := rfl
theorem mt_T_productOver : am_mt[163]? = some (RX3, yX3_productOver, prog_5_method_11_code, 4, (some .int), 0, 0, cd_T_productOver) := rfl
theorem mt_T_labelRings : am_mt[164]? = some (RX3, yX3_labelRings, prog_5_method_12_code, 4, (some .int), 0, 0, cd_T_labelRings) := rfl
theorem mt_T_labelRing : am_mt[165]? = some (RX3, yX3_labelRing, prog_5_method_13_code, 6, none, 0, 0, cd_T_labelRing) := rfl
theorem mt_T_aheadInBlock : am_mt[166]? = some (RX3, yX3_aheadInBlock, prog_5_method_14_code, 4, (some .int), 0, 0, cd_T_aheadInBlock) := rfl
theorem mt_L_cell : am_mt[167]? = some (RL, yL_cell, method_2_code, 2, (some .int), 0, 0, cd_L_cell) := rfl
theorem mt_L_law : am_mt[168]? = some (RL, x, code, 4, ret, 600000, 7302250, cd_L_law) := rfl
theorem mt_JA_fillI : am_mt[169]? = some (RJ7, yJ7_fill_53178, prog_10_method_103_code, 4, none, 0, 0, cd_JA_fillI) := rfl
theorem mt_JA_fillJ : am_mt[170]? = some (RJ7, yJ7_fill_d0a16, prog_10_method_101_code, 5, none, 0, 0, cd_JA_fillJ) := rfl
