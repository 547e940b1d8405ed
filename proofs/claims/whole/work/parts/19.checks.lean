theorem ck100 : okHM ((hX6_digitsOfWay, 6), (yX6_digitsOfWay, cX6_digitsOfWay, 6, (some .int), 2, true, 669, 668, 0, 72)) = true := by decide +kernel
theorem ck101 : okHM ((hX6_apartAfter, 8), (yX6_apartAfter, cX6_apartAfter, 8, (some .int), 4, false, 661, 660, 25, 72)) = true := by decide +kernel
theorem ck102 : okHM ((hX6_goInThought, 3), (yX6_goInThought, cX6_goInThought, 3, none, 1, false, 665, 664, 26, 72)) = true := by decide +kernel
theorem ck103 : okHM ((hX6_allAfterDrawn, 6), (yX6_allAfterDrawn, cX6_allAfterDrawn, 6, (some .int), 3, false, 701, 700, 31, 72)) = true := by decide +kernel
theorem ck104 : okHM ((hX6_stayInThought, 6), (yX6_stayInThought, cX6_stayInThought, 6, none, 3, false, 706, 705, 32, 72)) = true := by decide +kernel
theorem ck105 : okHM ((hX6_firstOtherwise, 12), (yX6_firstOtherwise, cX6_firstOtherwise, 12, (some .int), 5, false, 681, 680, 28, 72)) = true := by decide +kernel
theorem ck106 : okHM ((hX6_bitsThatTell, 8), (yX6_bitsThatTell, cX6_bitsThatTell, 8, (some .int), 5, false, 677, 676, 27, 72)) = true := by decide +kernel
theorem ck107 : okHM ((hX6_daysThatTell, 6), (yX6_daysThatTell, cX6_daysThatTell, 6, (some .int), 3, false, 685, 684, 29, 72)) = true := by decide +kernel
theorem ck108 : okHM ((hX6_leastDayThatTells, 5), (yX6_leastDayThatTells, cX6_leastDayThatTells, 5, (some .int), 3, false, 689, 688, 30, 72)) = true := by decide +kernel
theorem ck109 : okHM ((hX6_sum, 5), (yX6_sum, cX6_sum, 5, (some .int), 3, true, 438, 437, 0, 72)) = true := by decide +kernel
theorem ck110 : okHM ((hX6_lowestTerms, 7), (yX6_lowestTerms, cX6_lowestTerms, 7, (some .long), 3, true, 574, 573, 0, 72)) = true := by decide +kernel
theorem ck111 : okHM ((hX7_in, 6), (yX7_in, cX7_in, 6, (some .boolean), 3, true, 934, 933, 0, 83)) = true := by decide +kernel
theorem ck112 : okHM ((hX7_within, 3), (yX7_within, cX7_within, 3, (some .int), 3, true, 1078, 1077, 0, 83)) = true := by decide +kernel
theorem ck113 : okHM ((hX7_init, 1), (yX7_init, cX7_init, 1, none, 0, false, 773, 772, 0, 83)) = true := by decide +kernel
theorem ck114 : okHM ((hX7_spell, 10), (yX7_spell, cX7_spell, 10, none, 9, false, 778, 777, 33, 83)) = true := by decide +kernel
theorem ck115 : okHM ((hX7_isOne, 2), (yX7_isOne, cX7_isOne, 2, (some .boolean), 1, false, 947, 946, 35, 83)) = true := by decide +kernel
theorem ck116 : okHM ((hX7_isCoast, 1), (yX7_isCoast, cX7_isCoast, 1, (some .boolean), 1, true, 950, 949, 0, 83)) = true := by decide +kernel
theorem ck117 : okHM ((hX7_isMark, 1), (yX7_isMark, cX7_isMark, 1, (some .boolean), 1, true, 942, 941, 0, 83)) = true := by decide +kernel
theorem ck118 : okHM ((hX7_isOf, 3), (yX7_isOf, cX7_isOf, 3, (some .boolean), 2, false, 938, 937, 34, 83)) = true := by decide +kernel
theorem ck119 : okHM ((hX7_mostOf, 1), (yX7_mostOf, cX7_mostOf, 1, (some .int), 1, true, 953, 952, 0, 83)) = true := by decide +kernel
theorem ck120 : okHM ((hX7_placeOf, 1), (yX7_placeOf, cX7_placeOf, 1, (some .int), 1, true, 961, 960, 0, 83)) = true := by decide +kernel
theorem ck121 : okHM ((hX7_set, 5), (yX7_set, cX7_set, 5, (some .int), 3, false, 930, 928, 929, 83)) = true := by decide +kernel
theorem ck122 : okHM ((hX7_lays, 4), (yX7_lays, cX7_lays, 4, none, 3, false, 973, 972, 38, 83)) = true := by decide +kernel
theorem ck123 : okHM ((hX7_person, 4), (yX7_person, cX7_person, 4, (some .int), 2, false, 977, 975, 976, 83)) = true := by decide +kernel
theorem ck124 : okHM ((hX7_told, 3), (yX7_told, cX7_told, 3, (some .int), 2, false, 957, 955, 956, 83)) = true := by decide +kernel
theorem ck125 : okHM ((hX7_shoeOf, 4), (yX7_shoeOf, cX7_shoeOf, 4, (some .int), 1, false, 965, 964, 36, 83)) = true := by decide +kernel
theorem ck126 : okHM ((hX7_coastOf, 4), (yX7_coastOf, cX7_coastOf, 4, (some .int), 1, false, 969, 968, 37, 83)) = true := by decide +kernel
theorem ck127 : okHM ((hX7_feed, 2), (yX7_feed, cX7_feed, 2, (some .int), 1, false, 983, 981, 982, 83)) = true := by decide +kernel
theorem ck128 : okHM ((hX7_byteAt, 2), (yX7_byteAt, cX7_byteAt, 2, (some .int), 1, false, 1000, 999, 41, 83)) = true := by decide +kernel
theorem ck129 : okHM ((hX7_next, 3), (yX7_next, cX7_next, 3, none, 0, false, 996, 995, 40, 83)) = true := by decide +kernel
theorem ck130 : okHM ((hX7_fail, 1), (yX7_fail, cX7_fail, 1, none, 0, false, 1021, 1020, 45, 83)) = true := by decide +kernel
theorem ck131 : okHM ((hX7_isLetter, 3), (yX7_isLetter, cX7_isLetter, 3, (some .boolean), 2, false, 1013, 1012, 43, 83)) = true := by decide +kernel
theorem ck132 : okHM ((hX7_isWord, 9), (yX7_isWord, cX7_isWord, 9, (some .boolean), 8, false, 1009, 1008, 42, 83)) = true := by decide +kernel
theorem ck133 : okHM ((hX7_isSign, 2), (yX7_isSign, cX7_isSign, 2, (some .boolean), 1, false, 1053, 1052, 53, 83)) = true := by decide +kernel
theorem ck134 : okHM ((hX7_opens, 1), (yX7_opens, cX7_opens, 1, (some .boolean), 0, false, 1037, 1036, 49, 83)) = true := by decide +kernel
theorem ck135 : okHM ((hX7_name, 1), (yX7_name, cX7_name, 1, (some .int), 0, false, 1057, 1056, 54, 83)) = true := by decide +kernel
theorem ck136 : okHM ((hX7_atom, 2), (yX7_atom, cX7_atom, 2, (some .int), 0, false, 1049, 1048, 52, 83)) = true := by decide +kernel
theorem ck137 : okHM ((hX7_term, 2), (yX7_term, cX7_term, 2, (some .int), 0, false, 1045, 1044, 51, 83)) = true := by decide +kernel
theorem ck138 : okHM ((hX7_added, 4), (yX7_added, cX7_added, 4, (some .int), 0, false, 1041, 1040, 50, 83)) = true := by decide +kernel
theorem ck139 : okHM ((hX7_not, 4), (yX7_not, cX7_not, 4, (some .int), 0, false, 1033, 1032, 48, 83)) = true := by decide +kernel
theorem ck140 : okHM ((hX7_both, 3), (yX7_both, cX7_both, 3, (some .int), 0, false, 1029, 1028, 47, 83)) = true := by decide +kernel
theorem ck141 : okHM ((hX7_either, 3), (yX7_either, cX7_either, 3, (some .int), 0, false, 1025, 1024, 46, 83)) = true := by decide +kernel
theorem ck142 : okHM ((hX7_part, 3), (yX7_part, cX7_part, 3, (some .int), 1, false, 1017, 1016, 44, 83)) = true := by decide +kernel
theorem ck143 : okHM ((hX7_read, 6), (yX7_read, cX7_read, 6, (some .int), 2, false, 992, 991, 39, 83)) = true := by decide +kernel
theorem ck144 : okHM ((hX7_text, 2), (yX7_text, cX7_text, 2, (some .int), 0, false, 988, 986, 987, 83)) = true := by decide +kernel
theorem ck145 : okHM ((hX7_force, 3), (yX7_force, cX7_force, 3, (some .int), 1, false, 1063, 1061, 1062, 83)) = true := by decide +kernel
theorem ck146 : okHM ((hX7_says, 7), (yX7_says, cX7_says, 7, (some .int), 6, false, 1075, 1074, 56, 83)) = true := by decide +kernel
theorem ck147 : okHM ((hX7_takesOf, 8), (yX7_takesOf, cX7_takesOf, 8, (some .int), 3, false, 1071, 1070, 55, 83)) = true := by decide +kernel
theorem ck148 : okHM ((hX7_keepsOf, 6), (yX7_keepsOf, cX7_keepsOf, 6, (some .int), 2, false, 1082, 1081, 57, 83)) = true := by decide +kernel
theorem ck149 : okHM ((hX7_sureOf, 7), (yX7_sureOf, cX7_sureOf, 7, (some .int), 3, false, 1086, 1085, 58, 83)) = true := by decide +kernel
theorem ck150 : okHM ((hX7_asks, 4), (yX7_asks, cX7_asks, 4, (some .int), 3, false, 1067, 1065, 1066, 83)) = true := by decide +kernel
theorem ck151 : okHM ((hX7_stays1, 4), (yX7_stays1, cX7_stays1, 4, none, 2, false, 1094, 1093, 59, 83)) = true := by decide +kernel
theorem ck152 : okHM ((hX7_stay, 3), (yX7_stay, cX7_stay, 3, (some .int), 2, false, 1090, 1088, 1089, 83)) = true := by decide +kernel
theorem ck153 : okHM ((hX7_shake, 4), (yX7_shake, cX7_shake, 4, (some .int), 1, false, 1098, 1096, 1097, 83)) = true := by decide +kernel
theorem ck154 : okHM ((hX7_apart, 6), (yX7_apart, cX7_apart, 6, (some .int), 2, false, 1110, 1109, 61, 83)) = true := by decide +kernel
theorem ck155 : okHM ((hX7_tellsOf, 5), (yX7_tellsOf, cX7_tellsOf, 5, (some .int), 2, false, 1114, 1113, 62, 83)) = true := by decide +kernel
theorem ck156 : okHM ((hX7_areTwo, 3), (yX7_areTwo, cX7_areTwo, 3, (some .boolean), 2, false, 1106, 1105, 60, 83)) = true := by decide +kernel
theorem ck157 : okHM ((hX7_like, 4), (yX7_like, cX7_like, 4, (some .int), 3, false, 1102, 1100, 1101, 83)) = true := by decide +kernel
theorem ck158 : okHM ((hX7_odd, 7), (yX7_odd, cX7_odd, 7, (some .int), 2, false, 1118, 1116, 1117, 83)) = true := by decide +kernel
theorem ck159 : okHM ((hX7_lowest, 11), (yX7_lowest, cX7_lowest, 11, (some .long), 3, true, 1127, 1126, 0, 83)) = true := by decide +kernel
theorem ck160 : okHM ((hX7_mean, 4), (yX7_mean, cX7_mean, 4, (some .long), 3, false, 1123, 1121, 1122, 83)) = true := by decide +kernel
theorem ck161 : okHM ((hX7_tables, 4), (yX7_tables, cX7_tables, 4, none, 1, false, 1139, 1138, 63, 83)) = true := by decide +kernel
theorem ck162 : okHM ((hX7_daysOn, 2), (yX7_daysOn, cX7_daysOn, 2, (some .int), 2, true, 1146, 1145, 0, 83)) = true := by decide +kernel
theorem ck163 : okHM ((hX7_packed, 5), (yX7_packed, cX7_packed, 5, (some .int), 2, false, 1143, 1142, 64, 83)) = true := by decide +kernel
theorem ck164 : okHM ((hX7_wayOf, 4), (yX7_wayOf, cX7_wayOf, 4, (some .int), 1, true, 1134, 1133, 0, 83)) = true := by decide +kernel
theorem ck165 : okHM ((hX7_digitsOf, 3), (yX7_digitsOf, cX7_digitsOf, 3, (some .int), 1, true, 1180, 1179, 0, 83)) = true := by decide +kernel
theorem ck166 : okHM ((hX7_stays, 5), (yX7_stays, cX7_stays, 5, (some .int), 3, false, 1131, 1129, 1130, 83)) = true := by decide +kernel
theorem ck167 : okHM ((hX7_pack, 7), (yX7_pack, cX7_pack, 7, (some .int), 3, false, 1150, 1148, 1149, 83)) = true := by decide +kernel
theorem ck168 : okHM ((hX7_fits, 4), (yX7_fits, cX7_fits, 4, (some .boolean), 2, false, 1171, 1170, 66, 83)) = true := by decide +kernel
theorem ck169 : okHM ((hX7_lengthOf, 3), (yX7_lengthOf, cX7_lengthOf, 3, (some .int), 1, true, 1177, 1176, 0, 83)) = true := by decide +kernel
theorem ck170 : okHM ((hX7_coastsOf, 3), (yX7_coastsOf, cX7_coastsOf, 3, (some .int), 1, true, 1174, 1173, 0, 83)) = true := by decide +kernel
theorem ck171 : okHM ((hX7_looks, 6), (yX7_looks, cX7_looks, 6, none, 2, false, 1167, 1166, 65, 83)) = true := by decide +kernel
theorem ck172 : okHM ((hX7_fit, 4), (yX7_fit, cX7_fit, 4, (some .int), 3, false, 1162, 1160, 1161, 83)) = true := by decide +kernel
theorem ck173 : okHM ((hX7_share, 5), (yX7_share, cX7_share, 5, (some .long), 4, false, 1184, 1182, 1183, 83)) = true := by decide +kernel
theorem ck174 : okHM ((hX7_goes, 9), (yX7_goes, cX7_goes, 9, none, 5, false, 1192, 1191, 67, 83)) = true := by decide +kernel
theorem ck175 : okHM ((hX7_go, 5), (yX7_go, cX7_go, 5, (some .int), 4, false, 1188, 1186, 1187, 83)) = true := by decide +kernel
theorem ck176 : okHM ((hX7_firstOther, 5), (yX7_firstOther, cX7_firstOther, 5, (some .int), 3, false, 1201, 1200, 68, 83)) = true := by decide +kernel
theorem ck177 : okHM ((hX7_coastSet, 5), (yX7_coastSet, cX7_coastSet, 5, (some .int), 2, false, 1205, 1204, 69, 83)) = true := by decide +kernel
theorem ck178 : okHM ((hX7_tells, 12), (yX7_tells, cX7_tells, 12, (some .int), 4, false, 1196, 1194, 1195, 83)) = true := by decide +kernel
theorem ck179 : okHM ((hX7_film, 6), (yX7_film, cX7_film, 6, (some .int), 3, false, 1209, 1207, 1208, 83)) = true := by decide +kernel
theorem ck180 : okHM ((hX7_shoeDrawn, 9), (yX7_shoeDrawn, cX7_shoeDrawn, 9, (some .int), 3, false, 1218, 1217, 70, 83)) = true := by decide +kernel
theorem ck181 : okHM ((hX7_drawn, 4), (yX7_drawn, cX7_drawn, 4, (some .int), 3, false, 1213, 1211, 1212, 83)) = true := by decide +kernel
theorem ck182 : okHM ((hX7_chance, 9), (yX7_chance, cX7_chance, 9, (some .long), 5, false, 1223, 1221, 1222, 83)) = true := by decide +kernel
theorem ck183 : okHM ((hX7_image, 2), (yX7_image, cX7_image, 2, (some .int), 0, false, 1229, 1227, 1228, 83)) = true := by decide +kernel
theorem ck184 : okHM ((hX7_back, 2), (yX7_back, cX7_back, 2, (some .int), 0, false, 1233, 1231, 1232, 83)) = true := by decide +kernel
theorem ck185 : okHM ((hX7_count, 4), (yX7_count, cX7_count, 4, (some .int), 1, false, 1237, 1235, 1236, 83)) = true := by decide +kernel
theorem ck186 : okHM ((hX7_isSheet, 1), (yX7_isSheet, cX7_isSheet, 1, (some .boolean), 1, true, 1153, 1152, 0, 83)) = true := by decide +kernel
theorem ck187 : okHM ((hX7_sheet, 5), (yX7_sheet, cX7_sheet, 5, (some .int), 3, false, 1157, 1155, 1156, 83)) = true := by decide +kernel
theorem ck188 : okHM ((hX7_cell, 4), (yX7_cell, cX7_cell, 4, (some .int), 3, false, 1242, 1240, 1241, 83)) = true := by decide +kernel
theorem ck189 : okHM ((hX7_copy, 9), (yX7_copy, cX7_copy, 9, (some .int), 5, false, 1246, 1244, 1245, 83)) = true := by decide +kernel
theorem ck190 : okHM ((hX7_people, 8), (yX7_people, cX7_people, 8, (some .int), 4, false, 1250, 1248, 1249, 83)) = true := by decide +kernel
theorem ck191 : okHM ((hX7_over, 1), (yX7_over, cX7_over, 1, (some .int), 1, true, 1258, 1257, 0, 83)) = true := by decide +kernel
theorem ck192 : okHM ((hX7_taken, 4), (yX7_taken, cX7_taken, 4, (some .int), 2, false, 1255, 1253, 1254, 83)) = true := by decide +kernel
def ckL : List ((Hd × Nat) × MD) := [((hX0_init, 1), (yX0_init, cX0_init, 1, none, 0, false, 179, 178, 0, 75)),
  ((hX0_search, 4), (yX0_search, cX0_search, 4, none, 2, false, 626, 624, 625, 75)),
  ((hX0_clear, 2), (yX0_clear, cX0_clear, 2, none, 0, false, 630, 629, 20, 75)),
  ((hX0_isInShoe, 3), (yX0_isInShoe, cX0_isInShoe, 3, (some .boolean), 1, false, 634, 633, 21, 75)),
  ((hX0_found, 5), (yX0_found, cX0_found, 5, none, 0, false, 638, 637, 22, 75)),
  ((hX0_stepOn, 3), (yX0_stepOn, cX0_stepOn, 3, none, 1, false, 642, 641, 23, 75)),
  ((hX0_takeUp, 5), (yX0_takeUp, cX0_takeUp, 5, none, 3, false, 646, 645, 24, 75)),
  ((hX1_takes, 4), (yX1_takes, cX1_takes, 4, (some .int), 4, true, 511, 510, 0, 85)),
  ((hX1_takesUnbounded, 4), (yX1_takesUnbounded, cX1_takesUnbounded, 4, (some .int), 4, true, 514, 513, 0, 85)),
  ((hX1_keeps, 3), (yX1_keeps, cX1_keeps, 3, (some .int), 3, true, 492, 491, 0, 85)),
  ((hX1_sure, 3), (yX1_sure, cX1_sure, 3, (some .int), 3, true, 500, 499, 0, 85)),
  ((hX1_isUnder, 2), (yX1_isUnder, cX1_isUnder, 2, (some .boolean), 2, true, 768, 767, 0, 85)),
  ((hX2_init, 1), (yX2_init, cX2_init, 1, none, 0, false, 138, 137, 0, 74)),
  ((hX2_add, 2), (yX2_add, cX2_add, 2, (some .int), 1, false, 298, 296, 297, 74)),
  ((hX2_read, 2), (yX2_read, cX2_read, 2, (some .int), 0, false, 306, 304, 305, 74)),
  ((hX2_readLevel, 6), (yX2_readLevel, cX2_readLevel, 6, (some .boolean), 2, false, 350, 349, 5, 74)),
  ((hX2_readNot, 2), (yX2_readNot, cX2_readNot, 2, (some .boolean), 1, false, 362, 361, 8, 74)),
  ((hX2_readOne, 3), (yX2_readOne, cX2_readOne, 3, (some .boolean), 1, false, 354, 353, 6, 74)),
  ((hX2_levelOf, 1), (yX2_levelOf, cX2_levelOf, 1, (some .int), 1, true, 365, 364, 0, 74)),
  ((hX2_stepOf, 1), (yX2_stepOf, cX2_stepOf, 1, (some .int), 1, true, 368, 367, 0, 74)),
  ((hX2_put, 2), (yX2_put, cX2_put, 2, none, 1, false, 358, 357, 7, 74)),
  ((hX2_next, 1), (yX2_next, cX2_next, 1, none, 0, false, 310, 309, 0, 74)),
  ((hX2_nextWord, 3), (yX2_nextWord, cX2_nextWord, 3, none, 0, false, 318, 317, 2, 74)),
  ((hX2_nextNumber, 1), (yX2_nextNumber, cX2_nextNumber, 1, none, 0, false, 343, 342, 4, 74)),
  ((hX2_isIn, 4), (yX2_isIn, cX2_isIn, 4, (some .boolean), 3, false, 314, 313, 1, 74)),
  ((hX2_isSign, 1), (yX2_isSign, cX2_isSign, 1, (some .boolean), 1, true, 346, 345, 0, 74)),
  ((hX2_isToken, 3), (yX2_isToken, cX2_isToken, 3, (some .boolean), 1, false, 337, 336, 3, 74)),
  ((hX2_wordOf, 1), (yX2_wordOf, cX2_wordOf, 1, (some (.object "java/lang/String")), 1, true, 321, 320, 0, 74)),
  ((hX3_init, 1), (yX3_init, cX3_init, 1, none, 0, false, 227, 226, 0, 77)),
  ((hX3_isSort, 1), (yX3_isSort, cX3_isSort, 1, (some .boolean), 1, true, 740, 739, 0, 77)),
  ((hX3_isMissing, 1), (yX3_isMissing, cX3_isMissing, 1, (some .boolean), 0, false, 618, 616, 617, 77)),
  ((hX3_has, 2), (yX3_has, cX3_has, 2, (some .boolean), 1, false, 748, 746, 747, 77)),
  ((hX3_hasRun, 3), (yX3_hasRun, cX3_hasRun, 3, (some .boolean), 2, false, 756, 754, 755, 77)),
  ((hX3_becomes, 4), (yX3_becomes, cX3_becomes, 4, none, 2, false, 597, 595, 596, 77)),
  ((hX3_put, 3), (yX3_put, cX3_put, 3, none, 2, false, 601, 599, 600, 77)),
  ((hX3_all, 1), (yX3_all, cX3_all, 1, (some .int), 0, false, 605, 603, 604, 77)),
  ((hX4_init, 1), (yX4_init, cX4_init, 1, none, 0, false, 215, 214, 0, 76)),
  ((hX4_becomes, 3), (yX4_becomes, cX4_becomes, 3, none, 2, false, 372, 370, 371, 76)),
  ((hX4_value, 7), (yX4_value, cX4_value, 7, (some .int), 3, false, 480, 478, 479, 76)),
  ((hX4_joined, 3), (yX4_joined, cX4_joined, 3, (some .int), 3, true, 483, 482, 0, 76)),
  ((hX5_init, 1), (yX5_init, cX5_init, 1, none, 0, false, 98, 97, 0, 73)),
  ((hX5_has, 2), (yX5_has, cX5_has, 2, (some .boolean), 1, false, 431, 429, 430, 73)),
  ((hX5_comes, 4), (yX5_comes, cX5_comes, 4, (some .int), 2, false, 456, 454, 455, 73)),
  ((hX5_becomes, 2), (yX5_becomes, cX5_becomes, 2, none, 1, false, 720, 718, 719, 73)),
  ((hX5_allOnCoast, 2), (yX5_allOnCoast, cX5_allOnCoast, 2, (some .int), 1, false, 445, 443, 444, 73)),
  ((hX5_allInShoe, 2), (yX5_allInShoe, cX5_allInShoe, 2, (some .int), 1, false, 435, 433, 434, 73)),
  ((hX5_allInShoes, 1), (yX5_allInShoes, cX5_allInShoes, 1, (some .int), 0, false, 733, 731, 732, 73)),
  ((hX5_apart, 5), (yX5_apart, cX5_apart, 5, (some .int), 2, false, 542, 540, 541, 73)),
  ((hX5_oddest, 5), (yX5_oddest, cX5_oddest, 5, (some .int), 1, false, 562, 560, 561, 73)),
  ((hX5_poorest, 3), (yX5_poorest, cX5_poorest, 3, (some .int), 0, false, 557, 555, 556, 73)),
  ((hX6_init, 2), (yX6_init, cX6_init, 2, none, 0, false, 90, 89, 0, 72)),
  ((hX6_set, 5), (yX6_set, cX6_set, 5, (some .int), 3, false, 417, 415, 416, 72)),
  ((hX6_person, 3), (yX6_person, cX6_person, 3, (some .int), 2, false, 452, 450, 451, 72)),
  ((hX6_told, 3), (yX6_told, cX6_told, 3, (some .int), 2, false, 421, 419, 420, 72)),
  ((hX6_asks, 4), (yX6_asks, cX6_asks, 4, (some .int), 3, false, 461, 459, 460, 72)),
  ((hX6_feed, 2), (yX6_feed, cX6_feed, 2, (some .int), 1, false, 294, 292, 293, 72)),
  ((hX6_text, 2), (yX6_text, cX6_text, 2, (some .int), 0, false, 302, 300, 301, 72)),
  ((hX6_force, 3), (yX6_force, cX6_force, 3, (some .int), 1, false, 521, 519, 520, 72)),
  ((hX6_stay, 5), (yX6_stay, cX6_stay, 5, (some .int), 2, false, 525, 523, 524, 72)),
  ((hX6_shake, 4), (yX6_shake, cX6_shake, 4, (some .int), 1, false, 529, 527, 528, 72)),
  ((hX6_like, 4), (yX6_like, cX6_like, 4, (some .int), 3, false, 534, 532, 533, 72)),
  ((hX6_odd, 4), (yX6_odd, cX6_odd, 4, (some .int), 2, false, 553, 551, 552, 72)),
  ((hX6_mean, 4), (yX6_mean, cX6_mean, 4, (some .long), 3, false, 567, 565, 566, 72)),
  ((hX6_stays, 4), (yX6_stays, cX6_stays, 4, (some .int), 3, false, 578, 576, 577, 72)),
  ((hX6_pack, 6), (yX6_pack, cX6_pack, 6, (some .int), 3, false, 590, 588, 589, 72)),
  ((hX6_fit, 5), (yX6_fit, cX6_fit, 5, (some .int), 3, false, 610, 608, 609, 72)),
  ((hX6_share, 5), (yX6_share, cX6_share, 5, (some .long), 4, false, 650, 648, 649, 72)),
  ((hX6_go, 10), (yX6_go, cX6_go, 10, (some .int), 4, false, 654, 652, 653, 72)),
  ((hX6_tells, 6), (yX6_tells, cX6_tells, 6, (some .int), 4, false, 673, 671, 672, 72)),
  ((hX6_film, 6), (yX6_film, cX6_film, 6, (some .int), 3, false, 693, 691, 692, 72)),
  ((hX6_drawn, 4), (yX6_drawn, cX6_drawn, 4, (some .int), 3, false, 697, 695, 696, 72)),
  ((hX6_chance, 8), (yX6_chance, cX6_chance, 8, (some .long), 5, false, 711, 709, 710, 72)),
  ((hX6_image, 1), (yX6_image, cX6_image, 1, (some .int), 0, false, 716, 714, 715, 72)),
  ((hX6_back, 1), (yX6_back, cX6_back, 1, (some .int), 0, false, 725, 723, 724, 72)),
  ((hX6_count, 2), (yX6_count, cX6_count, 2, (some .int), 1, false, 729, 727, 728, 72)),
  ((hX6_sheet, 4), (yX6_sheet, cX6_sheet, 4, (some .int), 3, false, 737, 735, 736, 72)),
  ((hX6_cell, 5), (yX6_cell, cX6_cell, 5, (some .int), 3, false, 744, 742, 743, 72)),
  ((hX6_copy, 8), (yX6_copy, cX6_copy, 8, (some .int), 5, false, 752, 750, 751, 72)),
  ((hX6_people, 9), (yX6_people, cX6_people, 9, (some .int), 4, false, 760, 758, 759, 72)),
  ((hX6_taken, 3), (yX6_taken, cX6_taken, 3, (some .int), 2, false, 765, 763, 764, 72)),
  ((hX6_isCoast, 1), (yX6_isCoast, cX6_isCoast, 1, (some .boolean), 1, true, 441, 440, 0, 72)),
  ((hX6_isMark, 1), (yX6_isMark, cX6_isMark, 1, (some .boolean), 1, true, 464, 463, 0, 72)),
  ((hX6_isPart, 1), (yX6_isPart, cX6_isPart, 1, (some .boolean), 1, true, 570, 569, 0, 72)),
  ((hX6_isSheet, 1), (yX6_isSheet, cX6_isSheet, 1, (some .boolean), 1, true, 593, 592, 0, 72)),
  ((hX6_areTwo, 3), (yX6_areTwo, cX6_areTwo, 3, (some .boolean), 2, false, 538, 537, 15, 72)),
  ((hX6_isPlace, 2), (yX6_isPlace, cX6_isPlace, 2, (some .boolean), 2, true, 424, 423, 0, 72)),
  ((hX6_placeOf, 1), (yX6_placeOf, cX6_placeOf, 1, (some .int), 1, true, 427, 426, 0, 72)),
  ((hX6_mostOf, 1), (yX6_mostOf, cX6_mostOf, 1, (some .int), 1, true, 448, 447, 0, 72)),
  ((hX6_areStays, 3), (yX6_areStays, cX6_areStays, 3, (some .boolean), 1, true, 581, 580, 0, 72)),
  ((hX6_valueOf, 5), (yX6_valueOf, cX6_valueOf, 5, (some .int), 3, false, 476, 475, 11, 72)),
  ((hX6_nameAll, 7), (yX6_nameAll, cX6_nameAll, 7, none, 6, false, 472, 471, 10, 72)),
  ((hX6_takesOf, 7), (yX6_takesOf, cX6_takesOf, 7, (some .int), 6, false, 508, 507, 14, 72)),
  ((hX6_takesNow, 4), (yX6_takesNow, cX6_takesNow, 4, (some .int), 3, false, 504, 503, 13, 72)),
  ((hX6_keepsOf, 4), (yX6_keepsOf, cX6_keepsOf, 4, (some .int), 2, false, 468, 467, 9, 72)),
  ((hX6_sureOf, 5), (yX6_sureOf, cX6_sureOf, 5, (some .int), 3, false, 497, 496, 12, 72)),
  ((hX6_tellsExaminer, 5), (yX6_tellsExaminer, cX6_tellsExaminer, 5, (some .int), 2, false, 549, 548, 16, 72)),
  ((hX6_tellDailyTakes, 6), (yX6_tellDailyTakes, cX6_tellDailyTakes, 6, none, 1, false, 622, 621, 19, 72)),
  ((hX6_takesByStays, 7), (yX6_takesByStays, cX6_takesByStays, 7, (some .int), 3, false, 586, 585, 17, 72)),
  ((hX6_findFits, 3), (yX6_findFits, cX6_findFits, 3, (some .int), 2, false, 614, 613, 18, 72)),
  ((hX6_neverGoesBack, 6), (yX6_neverGoesBack, cX6_neverGoesBack, 6, (some .boolean), 2, true, 657, 656, 0, 72)),
  ((hX6_digitsOfWay, 6), (yX6_digitsOfWay, cX6_digitsOfWay, 6, (some .int), 2, true, 669, 668, 0, 72)),
  ((hX6_apartAfter, 8), (yX6_apartAfter, cX6_apartAfter, 8, (some .int), 4, false, 661, 660, 25, 72)),
  ((hX6_goInThought, 3), (yX6_goInThought, cX6_goInThought, 3, none, 1, false, 665, 664, 26, 72)),
  ((hX6_allAfterDrawn, 6), (yX6_allAfterDrawn, cX6_allAfterDrawn, 6, (some .int), 3, false, 701, 700, 31, 72)),
  ((hX6_stayInThought, 6), (yX6_stayInThought, cX6_stayInThought, 6, none, 3, false, 706, 705, 32, 72)),
  ((hX6_firstOtherwise, 12), (yX6_firstOtherwise, cX6_firstOtherwise, 12, (some .int), 5, false, 681, 680, 28, 72)),
  ((hX6_bitsThatTell, 8), (yX6_bitsThatTell, cX6_bitsThatTell, 8, (some .int), 5, false, 677, 676, 27, 72)),
  ((hX6_daysThatTell, 6), (yX6_daysThatTell, cX6_daysThatTell, 6, (some .int), 3, false, 685, 684, 29, 72)),
  ((hX6_leastDayThatTells, 5), (yX6_leastDayThatTells, cX6_leastDayThatTells, 5, (some .int), 3, false, 689, 688, 30, 72)),
  ((hX6_sum, 5), (yX6_sum, cX6_sum, 5, (some .int), 3, true, 438, 437, 0, 72)),
  ((hX6_lowestTerms, 7), (yX6_lowestTerms, cX6_lowestTerms, 7, (some .long), 3, true, 574, 573, 0, 72)),
  ((hX7_in, 6), (yX7_in, cX7_in, 6, (some .boolean), 3, true, 934, 933, 0, 83)),
  ((hX7_within, 3), (yX7_within, cX7_within, 3, (some .int), 3, true, 1078, 1077, 0, 83)),
  ((hX7_init, 1), (yX7_init, cX7_init, 1, none, 0, false, 773, 772, 0, 83)),
  ((hX7_spell, 10), (yX7_spell, cX7_spell, 10, none, 9, false, 778, 777, 33, 83)),
  ((hX7_isOne, 2), (yX7_isOne, cX7_isOne, 2, (some .boolean), 1, false, 947, 946, 35, 83)),
  ((hX7_isCoast, 1), (yX7_isCoast, cX7_isCoast, 1, (some .boolean), 1, true, 950, 949, 0, 83)),
  ((hX7_isMark, 1), (yX7_isMark, cX7_isMark, 1, (some .boolean), 1, true, 942, 941, 0, 83)),
  ((hX7_isOf, 3), (yX7_isOf, cX7_isOf, 3, (some .boolean), 2, false, 938, 937, 34, 83)),
  ((hX7_mostOf, 1), (yX7_mostOf, cX7_mostOf, 1, (some .int), 1, true, 953, 952, 0, 83)),
  ((hX7_placeOf, 1), (yX7_placeOf, cX7_placeOf, 1, (some .int), 1, true, 961, 960, 0, 83)),
  ((hX7_set, 5), (yX7_set, cX7_set, 5, (some .int), 3, false, 930, 928, 929, 83)),
  ((hX7_lays, 4), (yX7_lays, cX7_lays, 4, none, 3, false, 973, 972, 38, 83)),
  ((hX7_person, 4), (yX7_person, cX7_person, 4, (some .int), 2, false, 977, 975, 976, 83)),
  ((hX7_told, 3), (yX7_told, cX7_told, 3, (some .int), 2, false, 957, 955, 956, 83)),
  ((hX7_shoeOf, 4), (yX7_shoeOf, cX7_shoeOf, 4, (some .int), 1, false, 965, 964, 36, 83)),
  ((hX7_coastOf, 4), (yX7_coastOf, cX7_coastOf, 4, (some .int), 1, false, 969, 968, 37, 83)),
  ((hX7_feed, 2), (yX7_feed, cX7_feed, 2, (some .int), 1, false, 983, 981, 982, 83)),
  ((hX7_byteAt, 2), (yX7_byteAt, cX7_byteAt, 2, (some .int), 1, false, 1000, 999, 41, 83)),
  ((hX7_next, 3), (yX7_next, cX7_next, 3, none, 0, false, 996, 995, 40, 83)),
  ((hX7_fail, 1), (yX7_fail, cX7_fail, 1, none, 0, false, 1021, 1020, 45, 83)),
  ((hX7_isLetter, 3), (yX7_isLetter, cX7_isLetter, 3, (some .boolean), 2, false, 1013, 1012, 43, 83)),
  ((hX7_isWord, 9), (yX7_isWord, cX7_isWord, 9, (some .boolean), 8, false, 1009, 1008, 42, 83)),
  ((hX7_isSign, 2), (yX7_isSign, cX7_isSign, 2, (some .boolean), 1, false, 1053, 1052, 53, 83)),
  ((hX7_opens, 1), (yX7_opens, cX7_opens, 1, (some .boolean), 0, false, 1037, 1036, 49, 83)),
  ((hX7_name, 1), (yX7_name, cX7_name, 1, (some .int), 0, false, 1057, 1056, 54, 83)),
  ((hX7_atom, 2), (yX7_atom, cX7_atom, 2, (some .int), 0, false, 1049, 1048, 52, 83)),
  ((hX7_term, 2), (yX7_term, cX7_term, 2, (some .int), 0, false, 1045, 1044, 51, 83)),
  ((hX7_added, 4), (yX7_added, cX7_added, 4, (some .int), 0, false, 1041, 1040, 50, 83)),
  ((hX7_not, 4), (yX7_not, cX7_not, 4, (some .int), 0, false, 1033, 1032, 48, 83)),
  ((hX7_both, 3), (yX7_both, cX7_both, 3, (some .int), 0, false, 1029, 1028, 47, 83)),
  ((hX7_either, 3), (yX7_either, cX7_either, 3, (some .int), 0, false, 1025, 1024, 46, 83)),
  ((hX7_part, 3), (yX7_part, cX7_part, 3, (some .int), 1, false, 1017, 1016, 44, 83)),
  ((hX7_read, 6), (yX7_read, cX7_read, 6, (some .int), 2, false, 992, 991, 39, 83)),
  ((hX7_text, 2), (yX7_text, cX7_text, 2, (some .int), 0, false, 988, 986, 987, 83)),
  ((hX7_force, 3), (yX7_force, cX7_force, 3, (some .int), 1, false, 1063, 1061, 1062, 83)),
  ((hX7_says, 7), (yX7_says, cX7_says, 7, (some .int), 6, false, 1075, 1074, 56, 83)),
  ((hX7_takesOf, 8), (yX7_takesOf, cX7_takesOf, 8, (some .int), 3, false, 1071, 1070, 55, 83)),
  ((hX7_keepsOf, 6), (yX7_keepsOf, cX7_keepsOf, 6, (some .int), 2, false, 1082, 1081, 57, 83)),
  ((hX7_sureOf, 7), (yX7_sureOf, cX7_sureOf, 7, (some .int), 3, false, 1086, 1085, 58, 83)),
  ((hX7_asks, 4), (yX7_asks, cX7_asks, 4, (some .int), 3, false, 1067, 1065, 1066, 83)),
  ((hX7_stays1, 4), (yX7_stays1, cX7_stays1, 4, none, 2, false, 1094, 1093, 59, 83)),
  ((hX7_stay, 3), (yX7_stay, cX7_stay, 3, (some .int), 2, false, 1090, 1088, 1089, 83)),
  ((hX7_shake, 4), (yX7_shake, cX7_shake, 4, (some .int), 1, false, 1098, 1096, 1097, 83)),
  ((hX7_apart, 6), (yX7_apart, cX7_apart, 6, (some .int), 2, false, 1110, 1109, 61, 83)),
  ((hX7_tellsOf, 5), (yX7_tellsOf, cX7_tellsOf, 5, (some .int), 2, false, 1114, 1113, 62, 83)),
  ((hX7_areTwo, 3), (yX7_areTwo, cX7_areTwo, 3, (some .boolean), 2, false, 1106, 1105, 60, 83)),
  ((hX7_like, 4), (yX7_like, cX7_like, 4, (some .int), 3, false, 1102, 1100, 1101, 83)),
  ((hX7_odd, 7), (yX7_odd, cX7_odd, 7, (some .int), 2, false, 1118, 1116, 1117, 83)),
  ((hX7_lowest, 11), (yX7_lowest, cX7_lowest, 11, (some .long), 3, true, 1127, 1126, 0, 83)),
  ((hX7_mean, 4), (yX7_mean, cX7_mean, 4, (some .long), 3, false, 1123, 1121, 1122, 83)),
  ((hX7_tables, 4), (yX7_tables, cX7_tables, 4, none, 1, false, 1139, 1138, 63, 83)),
  ((hX7_daysOn, 2), (yX7_daysOn, cX7_daysOn, 2, (some .int), 2, true, 1146, 1145, 0, 83)),
  ((hX7_packed, 5), (yX7_packed, cX7_packed, 5, (some .int), 2, false, 1143, 1142, 64, 83)),
  ((hX7_wayOf, 4), (yX7_wayOf, cX7_wayOf, 4, (some .int), 1, true, 1134, 1133, 0, 83)),
  ((hX7_digitsOf, 3), (yX7_digitsOf, cX7_digitsOf, 3, (some .int), 1, true, 1180, 1179, 0, 83)),
  ((hX7_stays, 5), (yX7_stays, cX7_stays, 5, (some .int), 3, false, 1131, 1129, 1130, 83)),
  ((hX7_pack, 7), (yX7_pack, cX7_pack, 7, (some .int), 3, false, 1150, 1148, 1149, 83)),
  ((hX7_fits, 4), (yX7_fits, cX7_fits, 4, (some .boolean), 2, false, 1171, 1170, 66, 83)),
  ((hX7_lengthOf, 3), (yX7_lengthOf, cX7_lengthOf, 3, (some .int), 1, true, 1177, 1176, 0, 83)),
  ((hX7_coastsOf, 3), (yX7_coastsOf, cX7_coastsOf, 3, (some .int), 1, true, 1174, 1173, 0, 83)),
  ((hX7_looks, 6), (yX7_looks, cX7_looks, 6, none, 2, false, 1167, 1166, 65, 83)),
  ((hX7_fit, 4), (yX7_fit, cX7_fit, 4, (some .int), 3, false, 1162, 1160, 1161, 83)),
  ((hX7_share, 5), (yX7_share, cX7_share, 5, (some .long), 4, false, 1184, 1182, 1183, 83)),
  ((hX7_goes, 9), (yX7_goes, cX7_goes, 9, none, 5, false, 1192, 1191, 67, 83)),
  ((hX7_go, 5), (yX7_go, cX7_go, 5, (some .int), 4, false, 1188, 1186, 1187, 83)),
  ((hX7_firstOther, 5), (yX7_firstOther, cX7_firstOther, 5, (some .int), 3, false, 1201, 1200, 68, 83)),
  ((hX7_coastSet, 5), (yX7_coastSet, cX7_coastSet, 5, (some .int), 2, false, 1205, 1204, 69, 83)),
  ((hX7_tells, 12), (yX7_tells, cX7_tells, 12, (some .int), 4, false, 1196, 1194, 1195, 83)),
  ((hX7_film, 6), (yX7_film, cX7_film, 6, (some .int), 3, false, 1209, 1207, 1208, 83)),
  ((hX7_shoeDrawn, 9), (yX7_shoeDrawn, cX7_shoeDrawn, 9, (some .int), 3, false, 1218, 1217, 70, 83)),
  ((hX7_drawn, 4), (yX7_drawn, cX7_drawn, 4, (some .int), 3, false, 1213, 1211, 1212, 83)),
  ((hX7_chance, 9), (yX7_chance, cX7_chance, 9, (some .long), 5, false, 1223, 1221, 1222, 83)),
  ((hX7_image, 2), (yX7_image, cX7_image, 2, (some .int), 0, false, 1229, 1227, 1228, 83)),
  ((hX7_back, 2), (yX7_back, cX7_back, 2, (some .int), 0, false, 1233, 1231, 1232, 83)),
  ((hX7_count, 4), (yX7_count, cX7_count, 4, (some .int), 1, false, 1237, 1235, 1236, 83)),
  ((hX7_isSheet, 1), (yX7_isSheet, cX7_isSheet, 1, (some .boolean), 1, true, 1153, 1152, 0, 83)),
  ((hX7_sheet, 5), (yX7_sheet, cX7_sheet, 5, (some .int), 3, false, 1157, 1155, 1156, 83)),
  ((hX7_cell, 4), (yX7_cell, cX7_cell, 4, (some .int), 3, false, 1242, 1240, 1241, 83)),
  ((hX7_copy, 9), (yX7_copy, cX7_copy, 9, (some .int), 5, false, 1246, 1244, 1245, 83)),
  ((hX7_people, 8), (yX7_people, cX7_people, 8, (some .int), 4, false, 1250, 1248, 1249, 83)),
  ((hX7_over, 1), (yX7_over, cX7_over, 1, (some .int), 1, true, 1258, 1257, 0, 83)),
  ((hX7_taken, 4), (yX7_taken, cX7_taken, 4, (some .int), 2, false, 1255, 1253, 1254, 83))]
set_option maxRecDepth 20000 in
theorem ckL_zip : mtL.zip mdL = ckL := rfl
theorem ck_all : ∀ x ∈ ckL, okHM x = true := by
  unfold ckL
  refine List.forall_mem_cons.mpr ⟨ck0, ?_⟩
  refine List.forall_mem_cons.mpr ⟨ck1, ?_⟩
  refine List.forall_mem_cons.mpr ⟨ck2, ?_⟩
  refine List.forall_mem_cons.mpr ⟨ck3, ?_⟩
  refine List.forall_mem_cons.mpr ⟨ck4, ?_⟩
  refine List.forall_mem_cons.mpr ⟨ck5, ?_⟩
  refine List.forall_mem_cons.mpr ⟨ck6, ?_⟩
  refine List.forall_mem_cons.mpr ⟨ck7, ?_⟩
  refine List.forall_mem_cons.mpr ⟨ck8, ?_⟩
  refine List.forall_mem_cons.mpr ⟨ck9, ?_⟩
  refine List.forall_mem_cons.mpr ⟨ck10, ?_⟩
  refine List.forall_mem_cons.mpr ⟨ck11, ?_⟩
  refine List.forall_mem_cons.mpr ⟨ck12, ?_⟩
  refine List.forall_mem_cons.mpr ⟨ck13, ?_⟩
  refine List.forall_mem_cons.mpr ⟨ck14, ?_⟩
  refine List.forall_mem_cons.mpr ⟨ck15, ?_⟩
  refine List.forall_mem_cons.mpr ⟨ck16, ?_⟩
  refine List.forall_mem_cons.mpr ⟨ck17, ?_⟩
  refine List.forall_mem_cons.mpr ⟨ck18, ?_⟩
  refine List.forall_mem_cons.mpr ⟨ck19, ?_⟩
  refine List.forall_mem_cons.mpr ⟨ck20, ?_⟩
  refine List.forall_mem_cons.mpr ⟨ck21, ?_⟩
  refine List.forall_mem_cons.mpr ⟨ck22, ?_⟩
  refine List.forall_mem_cons.mpr ⟨ck23, ?_⟩
  refine List.forall_mem_cons.mpr ⟨ck24, ?_⟩
  refine List.forall_mem_cons.mpr ⟨ck25, ?_⟩
  refine List.forall_mem_cons.mpr ⟨ck26, ?_⟩
  refine List.forall_mem_cons.mpr ⟨ck27, ?_⟩
  refine List.forall_mem_cons.mpr ⟨ck28, ?_⟩
  refine List.forall_mem_cons.mpr ⟨ck29, ?_⟩
  refine List.forall_mem_cons.mpr ⟨ck30, ?_⟩
  refine List.forall_mem_cons.mpr ⟨ck31, ?_⟩
  refine List.forall_mem_cons.mpr ⟨ck32, ?_⟩
  refine List.forall_mem_cons.mpr ⟨ck33, ?_⟩
  refine List.forall_mem_cons.mpr ⟨ck34, ?_⟩
  refine List.forall_mem_cons.mpr ⟨ck35, ?_⟩
  refine List.forall_mem_cons.mpr ⟨ck36, ?_⟩
  refine List.forall_mem_cons.mpr ⟨ck37, ?_⟩
  refine List.forall_mem_cons.mpr ⟨ck38, ?_⟩
  refine List.forall_mem_cons.mpr ⟨ck39, ?_⟩
  refine List.forall_mem_cons.mpr ⟨ck40, ?_⟩
  refine List.forall_mem_cons.mpr ⟨ck41, ?_⟩
  refine List.forall_mem_cons.mpr ⟨ck42, ?_⟩
  refine List.forall_mem_cons.mpr ⟨ck43, ?_⟩
  refine List.forall_mem_cons.mpr ⟨ck44, ?_⟩
  refine List.forall_mem_cons.mpr ⟨ck45, ?_⟩
  refine List.forall_mem_cons.mpr ⟨ck46, ?_⟩
  refine List.forall_mem_cons.mpr ⟨ck47, ?_⟩
  refine List.forall_mem_cons.mpr ⟨ck48, ?_⟩
  refine List.forall_mem_cons.mpr ⟨ck49, ?_⟩
  refine List.forall_mem_cons.mpr ⟨ck50, ?_⟩
  refine List.forall_mem_cons.mpr ⟨ck51, ?_⟩
  refine List.forall_mem_cons.mpr ⟨ck52, ?_⟩
  refine List.forall_mem_cons.mpr ⟨ck53, ?_⟩
  refine List.forall_mem_cons.mpr ⟨ck54, ?_⟩
  refine List.forall_mem_cons.mpr ⟨ck55, ?_⟩
  refine List.forall_mem_cons.mpr ⟨ck56, ?_⟩
  refine List.forall_mem_cons.mpr ⟨ck57, ?_⟩
  refine List.forall_mem_cons.mpr ⟨ck58, ?_⟩
  refine List.forall_mem_cons.mpr ⟨ck59, ?_⟩
  refine List.forall_mem_cons.mpr ⟨ck60, ?_⟩
  refine List.forall_mem_cons.mpr ⟨ck61, ?_⟩
  refine List.forall_mem_cons.mpr ⟨ck62, ?_⟩
  refine List.forall_mem_cons.mpr ⟨ck63, ?_⟩
  refine List.forall_mem_cons.mpr ⟨ck64, ?_⟩
  refine List.forall_mem_cons.mpr ⟨ck65, ?_⟩
  refine List.forall_mem_cons.mpr ⟨ck66, ?_⟩
  refine List.forall_mem_cons.mpr ⟨ck67, ?_⟩
  refine List.forall_mem_cons.mpr ⟨ck68, ?_⟩
  refine List.forall_mem_cons.mpr ⟨ck69, ?_⟩
  refine List.forall_mem_cons.mpr ⟨ck70, ?_⟩
  refine List.forall_mem_cons.mpr ⟨ck71, ?_⟩
  refine List.forall_mem_cons.mpr ⟨ck72, ?_⟩
  refine List.forall_mem_cons.mpr ⟨ck73, ?_⟩
  refine List.forall_mem_cons.mpr ⟨ck74, ?_⟩
  refine List.forall_mem_cons.mpr ⟨ck75, ?_⟩
  refine List.forall_mem_cons.mpr ⟨ck76, ?_⟩
  refine List.forall_mem_cons.mpr ⟨ck77, ?_⟩
  refine List.forall_mem_cons.mpr ⟨ck78, ?_⟩
  refine List.forall_mem_cons.mpr ⟨ck79, ?_⟩
  refine List.forall_mem_cons.mpr ⟨ck80, ?_⟩
  refine List.forall_mem_cons.mpr ⟨ck81, ?_⟩
  refine List.forall_mem_cons.mpr ⟨ck82, ?_⟩
  refine List.forall_mem_cons.mpr ⟨ck83, ?_⟩
  refine List.forall_mem_cons.mpr ⟨ck84, ?_⟩
  refine List.forall_mem_cons.mpr ⟨ck85, ?_⟩
  refine List.forall_mem_cons.mpr ⟨ck86, ?_⟩
  refine List.forall_mem_cons.mpr ⟨ck87, ?_⟩
  refine List.forall_mem_cons.mpr ⟨ck88, ?_⟩
  refine List.forall_mem_cons.mpr ⟨ck89, ?_⟩
  refine List.forall_mem_cons.mpr ⟨ck90, ?_⟩
  refine List.forall_mem_cons.mpr ⟨ck91, ?_⟩
  refine List.forall_mem_cons.mpr ⟨ck92, ?_⟩
  refine List.forall_mem_cons.mpr ⟨ck93, ?_⟩
  refine List.forall_mem_cons.mpr ⟨ck94, ?_⟩
  refine List.forall_mem_cons.mpr ⟨ck95, ?_⟩
  refine List.forall_mem_cons.mpr ⟨ck96, ?_⟩
  refine List.forall_mem_cons.mpr ⟨ck97, ?_⟩
  refine List.forall_mem_cons.mpr ⟨ck98, ?_⟩
  refine List.forall_mem_cons.mpr ⟨ck99, ?_⟩
  refine List.forall_mem_cons.mpr ⟨ck100, ?_⟩
  refine List.forall_mem_cons.mpr ⟨ck101, ?_⟩
  refine List.forall_mem_cons.mpr ⟨ck102, ?_⟩
  refine List.forall_mem_cons.mpr ⟨ck103, ?_⟩
  refine List.forall_mem_cons.mpr ⟨ck104, ?_⟩
  refine List.forall_mem_cons.mpr ⟨ck105, ?_⟩
  refine List.forall_mem_cons.mpr ⟨ck106, ?_⟩
  refine List.forall_mem_cons.mpr ⟨ck107, ?_⟩
  refine List.forall_mem_cons.mpr ⟨ck108, ?_⟩
  refine List.forall_mem_cons.mpr ⟨ck109, ?_⟩
  refine List.forall_mem_cons.mpr ⟨ck110, ?_⟩
  refine List.forall_mem_cons.mpr ⟨ck111, ?_⟩
  refine List.forall_mem_cons.mpr ⟨ck112, ?_⟩
  refine List.forall_mem_cons.mpr ⟨ck113, ?_⟩
  refine List.forall_mem_cons.mpr ⟨ck114, ?_⟩
  refine List.forall_mem_cons.mpr ⟨ck115, ?_⟩
  refine List.forall_mem_cons.mpr ⟨ck116, ?_⟩
  refine List.forall_mem_cons.mpr ⟨ck117, ?_⟩
  refine List.forall_mem_cons.mpr ⟨ck118, ?_⟩
  refine List.forall_mem_cons.mpr ⟨ck119, ?_⟩
  refine List.forall_mem_cons.mpr ⟨ck120, ?_⟩
  refine List.forall_mem_cons.mpr ⟨ck121, ?_⟩
  refine List.forall_mem_cons.mpr ⟨ck122, ?_⟩
  refine List.forall_mem_cons.mpr ⟨ck123, ?_⟩
  refine List.forall_mem_cons.mpr ⟨ck124, ?_⟩
  refine List.forall_mem_cons.mpr ⟨ck125, ?_⟩
  refine List.forall_mem_cons.mpr ⟨ck126, ?_⟩
  refine List.forall_mem_cons.mpr ⟨ck127, ?_⟩
  refine List.forall_mem_cons.mpr ⟨ck128, ?_⟩
  refine List.forall_mem_cons.mpr ⟨ck129, ?_⟩
  refine List.forall_mem_cons.mpr ⟨ck130, ?_⟩
  refine List.forall_mem_cons.mpr ⟨ck131, ?_⟩
  refine List.forall_mem_cons.mpr ⟨ck132, ?_⟩
  refine List.forall_mem_cons.mpr ⟨ck133, ?_⟩
  refine List.forall_mem_cons.mpr ⟨ck134, ?_⟩
  refine List.forall_mem_cons.mpr ⟨ck135, ?_⟩
  refine List.forall_mem_cons.mpr ⟨ck136, ?_⟩
  refine List.forall_mem_cons.mpr ⟨ck137, ?_⟩
  refine List.forall_mem_cons.mpr ⟨ck138, ?_⟩
  refine List.forall_mem_cons.mpr ⟨ck139, ?_⟩
  refine List.forall_mem_cons.mpr ⟨ck140, ?_⟩
  refine List.forall_mem_cons.mpr ⟨ck141, ?_⟩
  refine List.forall_mem_cons.mpr ⟨ck142, ?_⟩
  refine List.forall_mem_cons.mpr ⟨ck143, ?_⟩
  refine List.forall_mem_cons.mpr ⟨ck144, ?_⟩
  refine List.forall_mem_cons.mpr ⟨ck145, ?_⟩
  refine List.forall_mem_cons.mpr ⟨ck146, ?_⟩
  refine List.forall_mem_cons.mpr ⟨ck147, ?_⟩
  refine List.forall_mem_cons.mpr ⟨ck148, ?_⟩
  refine List.forall_mem_cons.mpr ⟨ck149, ?_⟩
  refine List.forall_mem_cons.mpr ⟨ck150, ?_⟩
  refine List.forall_mem_cons.mpr ⟨ck151, ?_⟩
  refine List.forall_mem_cons.mpr ⟨ck152, ?_⟩
  refine List.forall_mem_cons.mpr ⟨ck153, ?_⟩
  refine List.forall_mem_cons.mpr ⟨ck154, ?_⟩
  refine List.forall_mem_cons.mpr ⟨ck155, ?_⟩
  refine List.forall_mem_cons.mpr ⟨ck156, ?_⟩
  refine List.forall_mem_cons.mpr ⟨ck157, ?_⟩
  refine List.forall_mem_cons.mpr ⟨ck158, ?_⟩
  refine List.forall_mem_cons.mpr ⟨ck159, ?_⟩
  refine List.forall_mem_cons.mpr ⟨ck160, ?_⟩
  refine List.forall_mem_cons.mpr ⟨ck161, ?_⟩
  refine List.forall_mem_cons.mpr ⟨ck162, ?_⟩
  refine List.forall_mem_cons.mpr ⟨ck163, ?_⟩
  refine List.forall_mem_cons.mpr ⟨ck164, ?_⟩
  refine List.forall_mem_cons.mpr ⟨ck165, ?_⟩
  refine List.forall_mem_cons.mpr ⟨ck166, ?_⟩
  refine List.forall_mem_cons.mpr ⟨ck167, ?_⟩
  refine List.forall_mem_cons.mpr ⟨ck168, ?_⟩
  refine List.forall_mem_cons.mpr ⟨ck169, ?_⟩
  refine List.forall_mem_cons.mpr ⟨ck170, ?_⟩
  refine List.forall_mem_cons.mpr ⟨ck171, ?_⟩
  refine List.forall_mem_cons.mpr ⟨ck172, ?_⟩
  refine List.forall_mem_cons.mpr ⟨ck173, ?_⟩
  refine List.forall_mem_cons.mpr ⟨ck174, ?_⟩
  refine List.forall_mem_cons.mpr ⟨ck175, ?_⟩
  refine List.forall_mem_cons.mpr ⟨ck176, ?_⟩
  refine List.forall_mem_cons.mpr ⟨ck177, ?_⟩
  refine List.forall_mem_cons.mpr ⟨ck178, ?_⟩
  refine List.forall_mem_cons.mpr ⟨ck179, ?_⟩
  refine List.forall_mem_cons.mpr ⟨ck180, ?_⟩
  refine List.forall_mem_cons.mpr ⟨ck181, ?_⟩
  refine List.forall_mem_cons.mpr ⟨ck182, ?_⟩
  refine List.forall_mem_cons.mpr ⟨ck183, ?_⟩
  refine List.forall_mem_cons.mpr ⟨ck184, ?_⟩
  refine List.forall_mem_cons.mpr ⟨ck185, ?_⟩
  refine List.forall_mem_cons.mpr ⟨ck186, ?_⟩
  refine List.forall_mem_cons.mpr ⟨ck187, ?_⟩
  refine List.forall_mem_cons.mpr ⟨ck188, ?_⟩
  refine List.forall_mem_cons.mpr ⟨ck189, ?_⟩
  refine List.forall_mem_cons.mpr ⟨ck190, ?_⟩
  refine List.forall_mem_cons.mpr ⟨ck191, ?_⟩
  refine List.forall_mem_cons.mpr ⟨ck192, ?_⟩
  exact fun _ h => absurd h List.not_mem_nil
set_option maxRecDepth 20000 in
theorem mt_md {y : Nat} {hm : Hd × Nat} (h : mtL[y]? = some hm) : ∃ q, mdL[y]? = some q ∧ okHM (hm, q) = true := by
  have hl : mtL.length = mdL.length := rfl
  have hy : y < mtL.length := (List.getElem?_eq_some_iff.mp h).1
  have hq : mdL[y]? = some (mdL[y]'(hl ▸ hy)) := List.getElem?_eq_getElem _
  refine ⟨_, hq, ck_all _ ?_⟩
  rw [← ckL_zip]
  refine List.mem_of_getElem? (i := y) ?_
  rw [List.getElem?_zip_eq_some]
  exact ⟨h, hq⟩
