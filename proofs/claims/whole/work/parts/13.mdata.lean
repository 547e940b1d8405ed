abbrev MD : Type := MethodName × ByteArray × Nat × Option FieldType × Nat × Bool × Nat × Nat × Nat × Nat
def mdL : List MD := [(yX0_init, cX0_init, 1, none, 0, false, 179, 178, 0, 75),
  (yX0_search, cX0_search, 4, none, 2, false, 626, 624, 625, 75),
  (yX0_clear, cX0_clear, 2, none, 0, false, 630, 629, 20, 75),
  (yX0_isInShoe, cX0_isInShoe, 3, (some .boolean), 1, false, 634, 633, 21, 75),
  (yX0_found, cX0_found, 5, none, 0, false, 638, 637, 22, 75),
  (yX0_stepOn, cX0_stepOn, 3, none, 1, false, 642, 641, 23, 75),
  (yX0_takeUp, cX0_takeUp, 5, none, 3, false, 646, 645, 24, 75),
  (yX1_takes, cX1_takes, 4, (some .int), 4, true, 511, 510, 0, 85),
  (yX1_takesUnbounded, cX1_takesUnbounded, 4, (some .int), 4, true, 514, 513, 0, 85),
  (yX1_keeps, cX1_keeps, 3, (some .int), 3, true, 492, 491, 0, 85),
  (yX1_sure, cX1_sure, 3, (some .int), 3, true, 500, 499, 0, 85),
  (yX1_isUnder, cX1_isUnder, 2, (some .boolean), 2, true, 768, 767, 0, 85),
  (yX2_init, cX2_init, 1, none, 0, false, 138, 137, 0, 74),
  (yX2_add, cX2_add, 2, (some .int), 1, false, 298, 296, 297, 74),
  (yX2_read, cX2_read, 2, (some .int), 0, false, 306, 304, 305, 74),
  (yX2_readLevel, cX2_readLevel, 6, (some .boolean), 2, false, 350, 349, 5, 74),
  (yX2_readNot, cX2_readNot, 2, (some .boolean), 1, false, 362, 361, 8, 74),
  (yX2_readOne, cX2_readOne, 3, (some .boolean), 1, false, 354, 353, 6, 74),
  (yX2_levelOf, cX2_levelOf, 1, (some .int), 1, true, 365, 364, 0, 74),
  (yX2_stepOf, cX2_stepOf, 1, (some .int), 1, true, 368, 367, 0, 74),
  (yX2_put, cX2_put, 2, none, 1, false, 358, 357, 7, 74),
  (yX2_next, cX2_next, 1, none, 0, false, 310, 309, 0, 74),
  (yX2_nextWord, cX2_nextWord, 3, none, 0, false, 318, 317, 2, 74),
  (yX2_nextNumber, cX2_nextNumber, 1, none, 0, false, 343, 342, 4, 74),
  (yX2_isIn, cX2_isIn, 4, (some .boolean), 3, false, 314, 313, 1, 74),
  (yX2_isSign, cX2_isSign, 1, (some .boolean), 1, true, 346, 345, 0, 74),
  (yX2_isToken, cX2_isToken, 3, (some .boolean), 1, false, 337, 336, 3, 74),
  (yX2_wordOf, cX2_wordOf, 1, (some (.object "java/lang/String")), 1, true, 321, 320, 0, 74),
  (yX3_init, cX3_init, 1, none, 0, false, 227, 226, 0, 77),
  (yX3_isSort, cX3_isSort, 1, (some .boolean), 1, true, 740, 739, 0, 77),
  (yX3_isMissing, cX3_isMissing, 1, (some .boolean), 0, false, 618, 616, 617, 77),
  (yX3_has, cX3_has, 2, (some .boolean), 1, false, 748, 746, 747, 77),
  (yX3_hasRun, cX3_hasRun, 3, (some .boolean), 2, false, 756, 754, 755, 77),
  (yX3_becomes, cX3_becomes, 4, none, 2, false, 597, 595, 596, 77),
  (yX3_put, cX3_put, 3, none, 2, false, 601, 599, 600, 77),
  (yX3_all, cX3_all, 1, (some .int), 0, false, 605, 603, 604, 77),
  (yX4_init, cX4_init, 1, none, 0, false, 215, 214, 0, 76),
  (yX4_becomes, cX4_becomes, 3, none, 2, false, 372, 370, 371, 76),
  (yX4_value, cX4_value, 7, (some .int), 3, false, 480, 478, 479, 76),
  (yX4_joined, cX4_joined, 3, (some .int), 3, true, 483, 482, 0, 76),
  (yX5_init, cX5_init, 1, none, 0, false, 98, 97, 0, 73),
  (yX5_has, cX5_has, 2, (some .boolean), 1, false, 431, 429, 430, 73),
  (yX5_comes, cX5_comes, 4, (some .int), 2, false, 456, 454, 455, 73),
  (yX5_becomes, cX5_becomes, 2, none, 1, false, 720, 718, 719, 73),
  (yX5_allOnCoast, cX5_allOnCoast, 2, (some .int), 1, false, 445, 443, 444, 73),
  (yX5_allInShoe, cX5_allInShoe, 2, (some .int), 1, false, 435, 433, 434, 73),
  (yX5_allInShoes, cX5_allInShoes, 1, (some .int), 0, false, 733, 731, 732, 73),
  (yX5_apart, cX5_apart, 5, (some .int), 2, false, 542, 540, 541, 73),
  (yX5_oddest, cX5_oddest, 5, (some .int), 1, false, 562, 560, 561, 73),
  (yX5_poorest, cX5_poorest, 3, (some .int), 0, false, 557, 555, 556, 73),
  (yX6_init, cX6_init, 2, none, 0, false, 90, 89, 0, 72),
  (yX6_set, cX6_set, 5, (some .int), 3, false, 417, 415, 416, 72),
  (yX6_person, cX6_person, 3, (some .int), 2, false, 452, 450, 451, 72),
  (yX6_told, cX6_told, 3, (some .int), 2, false, 421, 419, 420, 72),
  (yX6_asks, cX6_asks, 4, (some .int), 3, false, 461, 459, 460, 72),
  (yX6_feed, cX6_feed, 2, (some .int), 1, false, 294, 292, 293, 72),
  (yX6_text, cX6_text, 2, (some .int), 0, false, 302, 300, 301, 72),
  (yX6_force, cX6_force, 3, (some .int), 1, false, 521, 519, 520, 72),
  (yX6_stay, cX6_stay, 5, (some .int), 2, false, 525, 523, 524, 72),
  (yX6_shake, cX6_shake, 4, (some .int), 1, false, 529, 527, 528, 72),
  (yX6_like, cX6_like, 4, (some .int), 3, false, 534, 532, 533, 72),
  (yX6_odd, cX6_odd, 4, (some .int), 2, false, 553, 551, 552, 72),
  (yX6_mean, cX6_mean, 4, (some .long), 3, false, 567, 565, 566, 72),
  (yX6_stays, cX6_stays, 4, (some .int), 3, false, 578, 576, 577, 72),
  (yX6_pack, cX6_pack, 6, (some .int), 3, false, 590, 588, 589, 72),
  (yX6_fit, cX6_fit, 5, (some .int), 3, false, 610, 608, 609, 72),
  (yX6_share, cX6_share, 5, (some .long), 4, false, 650, 648, 649, 72),
  (yX6_go, cX6_go, 10, (some .int), 4, false, 654, 652, 653, 72),
  (yX6_tells, cX6_tells, 6, (some .int), 4, false, 673, 671, 672, 72),
  (yX6_film, cX6_film, 6, (some .int), 3, false, 693, 691, 692, 72),
  (yX6_drawn, cX6_drawn, 4, (some .int), 3, false, 697, 695, 696, 72),
  (yX6_chance, cX6_chance, 8, (some .long), 5, false, 711, 709, 710, 72),
  (yX6_image, cX6_image, 1, (some .int), 0, false, 716, 714, 715, 72),
  (yX6_back, cX6_back, 1, (some .int), 0, false, 725, 723, 724, 72),
  (yX6_count, cX6_count, 2, (some .int), 1, false, 729, 727, 728, 72),
  (yX6_sheet, cX6_sheet, 4, (some .int), 3, false, 737, 735, 736, 72),
  (yX6_cell, cX6_cell, 5, (some .int), 3, false, 744, 742, 743, 72),
  (yX6_copy, cX6_copy, 8, (some .int), 5, false, 752, 750, 751, 72),
  (yX6_people, cX6_people, 9, (some .int), 4, false, 760, 758, 759, 72),
  (yX6_taken, cX6_taken, 3, (some .int), 2, false, 765, 763, 764, 72),
  (yX6_isCoast, cX6_isCoast, 1, (some .boolean), 1, true, 441, 440, 0, 72),
  (yX6_isMark, cX6_isMark, 1, (some .boolean), 1, true, 464, 463, 0, 72),
  (yX6_isPart, cX6_isPart, 1, (some .boolean), 1, true, 570, 569, 0, 72),
  (yX6_isSheet, cX6_isSheet, 1, (some .boolean), 1, true, 593, 592, 0, 72),
  (yX6_areTwo, cX6_areTwo, 3, (some .boolean), 2, false, 538, 537, 15, 72),
  (yX6_isPlace, cX6_isPlace, 2, (some .boolean), 2, true, 424, 423, 0, 72),
  (yX6_placeOf, cX6_placeOf, 1, (some .int), 1, true, 427, 426, 0, 72),
  (yX6_mostOf, cX6_mostOf, 1, (some .int), 1, true, 448, 447, 0, 72),
  (yX6_areStays, cX6_areStays, 3, (some .boolean), 1, true, 581, 580, 0, 72),
  (yX6_valueOf, cX6_valueOf, 5, (some .int), 3, false, 476, 475, 11, 72),
  (yX6_nameAll, cX6_nameAll, 7, none, 6, false, 472, 471, 10, 72),
  (yX6_takesOf, cX6_takesOf, 7, (some .int), 6, false, 508, 507, 14, 72),
  (yX6_takesNow, cX6_takesNow, 4, (some .int), 3, false, 504, 503, 13, 72),
  (yX6_keepsOf, cX6_keepsOf, 4, (some .int), 2, false, 468, 467, 9, 72),
  (yX6_sureOf, cX6_sureOf, 5, (some .int), 3, false, 497, 496, 12, 72),
  (yX6_tellsExaminer, cX6_tellsExaminer, 5, (some .int), 2, false, 549, 548, 16, 72),
  (yX6_tellDailyTakes, cX6_tellDailyTakes, 6, none, 1, false, 622, 621, 19, 72),
  (yX6_takesByStays, cX6_takesByStays, 7, (some .int), 3, false, 586, 585, 17, 72),
  (yX6_findFits, cX6_findFits, 3, (some .int), 2, false, 614, 613, 18, 72),
  (yX6_neverGoesBack, cX6_neverGoesBack, 6, (some .boolean), 2, true, 657, 656, 0, 72),
  (yX6_digitsOfWay, cX6_digitsOfWay, 6, (some .int), 2, true, 669, 668, 0, 72),
  (yX6_apartAfter, cX6_apartAfter, 8, (some .int), 4, false, 661, 660, 25, 72),
  (yX6_goInThought, cX6_goInThought, 3, none, 1, false, 665, 664, 26, 72),
  (yX6_allAfterDrawn, cX6_allAfterDrawn, 6, (some .int), 3, false, 701, 700, 31, 72),
  (yX6_stayInThought, cX6_stayInThought, 6, none, 3, false, 706, 705, 32, 72),
  (yX6_firstOtherwise, cX6_firstOtherwise, 12, (some .int), 5, false, 681, 680, 28, 72),
  (yX6_bitsThatTell, cX6_bitsThatTell, 8, (some .int), 5, false, 677, 676, 27, 72),
  (yX6_daysThatTell, cX6_daysThatTell, 6, (some .int), 3, false, 685, 684, 29, 72),
  (yX6_leastDayThatTells, cX6_leastDayThatTells, 5, (some .int), 3, false, 689, 688, 30, 72),
  (yX6_sum, cX6_sum, 5, (some .int), 3, true, 438, 437, 0, 72),
  (yX6_lowestTerms, cX6_lowestTerms, 7, (some .long), 3, true, 574, 573, 0, 72),
  (yX7_in, cX7_in, 6, (some .boolean), 3, true, 934, 933, 0, 83),
  (yX7_within, cX7_within, 3, (some .int), 3, true, 1078, 1077, 0, 83),
  (yX7_init, cX7_init, 1, none, 0, false, 773, 772, 0, 83),
  (yX7_spell, cX7_spell, 10, none, 9, false, 778, 777, 33, 83),
  (yX7_isOne, cX7_isOne, 2, (some .boolean), 1, false, 947, 946, 35, 83),
  (yX7_isCoast, cX7_isCoast, 1, (some .boolean), 1, true, 950, 949, 0, 83),
  (yX7_isMark, cX7_isMark, 1, (some .boolean), 1, true, 942, 941, 0, 83),
  (yX7_isOf, cX7_isOf, 3, (some .boolean), 2, false, 938, 937, 34, 83),
  (yX7_mostOf, cX7_mostOf, 1, (some .int), 1, true, 953, 952, 0, 83),
  (yX7_placeOf, cX7_placeOf, 1, (some .int), 1, true, 961, 960, 0, 83),
  (yX7_set, cX7_set, 5, (some .int), 3, false, 930, 928, 929, 83),
  (yX7_lays, cX7_lays, 4, none, 3, false, 973, 972, 38, 83),
  (yX7_person, cX7_person, 4, (some .int), 2, false, 977, 975, 976, 83),
  (yX7_told, cX7_told, 3, (some .int), 2, false, 957, 955, 956, 83),
  (yX7_shoeOf, cX7_shoeOf, 4, (some .int), 1, false, 965, 964, 36, 83),
  (yX7_coastOf, cX7_coastOf, 4, (some .int), 1, false, 969, 968, 37, 83),
  (yX7_feed, cX7_feed, 2, (some .int), 1, false, 983, 981, 982, 83),
  (yX7_byteAt, cX7_byteAt, 2, (some .int), 1, false, 1000, 999, 41, 83),
  (yX7_next, cX7_next, 3, none, 0, false, 996, 995, 40, 83),
  (yX7_fail, cX7_fail, 1, none, 0, false, 1021, 1020, 45, 83),
  (yX7_isLetter, cX7_isLetter, 3, (some .boolean), 2, false, 1013, 1012, 43, 83),
  (yX7_isWord, cX7_isWord, 9, (some .boolean), 8, false, 1009, 1008, 42, 83),
  (yX7_isSign, cX7_isSign, 2, (some .boolean), 1, false, 1053, 1052, 53, 83),
  (yX7_opens, cX7_opens, 1, (some .boolean), 0, false, 1037, 1036, 49, 83),
  (yX7_name, cX7_name, 1, (some .int), 0, false, 1057, 1056, 54, 83),
  (yX7_atom, cX7_atom, 2, (some .int), 0, false, 1049, 1048, 52, 83),
  (yX7_term, cX7_term, 2, (some .int), 0, false, 1045, 1044, 51, 83),
  (yX7_added, cX7_added, 4, (some .int), 0, false, 1041, 1040, 50, 83),
  (yX7_not, cX7_not, 4, (some .int), 0, false, 1033, 1032, 48, 83),
  (yX7_both, cX7_both, 3, (some .int), 0, false, 1029, 1028, 47, 83),
  (yX7_either, cX7_either, 3, (some .int), 0, false, 1025, 1024, 46, 83),
  (yX7_part, cX7_part, 3, (some .int), 1, false, 1017, 1016, 44, 83),
  (yX7_read, cX7_read, 6, (some .int), 2, false, 992, 991, 39, 83),
  (yX7_text, cX7_text, 2, (some .int), 0, false, 988, 986, 987, 83),
  (yX7_force, cX7_force, 3, (some .int), 1, false, 1063, 1061, 1062, 83),
  (yX7_says, cX7_says, 7, (some .int), 6, false, 1075, 1074, 56, 83),
  (yX7_takesOf, cX7_takesOf, 8, (some .int), 3, false, 1071, 1070, 55, 83),
  (yX7_keepsOf, cX7_keepsOf, 6, (some .int), 2, false, 1082, 1081, 57, 83),
  (yX7_sureOf, cX7_sureOf, 7, (some .int), 3, false, 1086, 1085, 58, 83),
  (yX7_asks, cX7_asks, 4, (some .int), 3, false, 1067, 1065, 1066, 83),
  (yX7_stays1, cX7_stays1, 4, none, 2, false, 1094, 1093, 59, 83),
  (yX7_stay, cX7_stay, 3, (some .int), 2, false, 1090, 1088, 1089, 83),
  (yX7_shake, cX7_shake, 4, (some .int), 1, false, 1098, 1096, 1097, 83),
  (yX7_apart, cX7_apart, 6, (some .int), 2, false, 1110, 1109, 61, 83),
  (yX7_tellsOf, cX7_tellsOf, 5, (some .int), 2, false, 1114, 1113, 62, 83),
  (yX7_areTwo, cX7_areTwo, 3, (some .boolean), 2, false, 1106, 1105, 60, 83),
  (yX7_like, cX7_like, 4, (some .int), 3, false, 1102, 1100, 1101, 83),
  (yX7_odd, cX7_odd, 7, (some .int), 2, false, 1118, 1116, 1117, 83),
  (yX7_lowest, cX7_lowest, 11, (some .long), 3, true, 1127, 1126, 0, 83),
  (yX7_mean, cX7_mean, 4, (some .long), 3, false, 1123, 1121, 1122, 83),
  (yX7_tables, cX7_tables, 4, none, 1, false, 1139, 1138, 63, 83),
  (yX7_daysOn, cX7_daysOn, 2, (some .int), 2, true, 1146, 1145, 0, 83),
  (yX7_packed, cX7_packed, 5, (some .int), 2, false, 1143, 1142, 64, 83),
  (yX7_wayOf, cX7_wayOf, 4, (some .int), 1, true, 1134, 1133, 0, 83),
  (yX7_digitsOf, cX7_digitsOf, 3, (some .int), 1, true, 1180, 1179, 0, 83),
  (yX7_stays, cX7_stays, 5, (some .int), 3, false, 1131, 1129, 1130, 83),
  (yX7_pack, cX7_pack, 7, (some .int), 3, false, 1150, 1148, 1149, 83),
  (yX7_fits, cX7_fits, 4, (some .boolean), 2, false, 1171, 1170, 66, 83),
  (yX7_lengthOf, cX7_lengthOf, 3, (some .int), 1, true, 1177, 1176, 0, 83),
  (yX7_coastsOf, cX7_coastsOf, 3, (some .int), 1, true, 1174, 1173, 0, 83),
  (yX7_looks, cX7_looks, 6, none, 2, false, 1167, 1166, 65, 83),
  (yX7_fit, cX7_fit, 4, (some .int), 3, false, 1162, 1160, 1161, 83),
  (yX7_share, cX7_share, 5, (some .long), 4, false, 1184, 1182, 1183, 83),
  (yX7_goes, cX7_goes, 9, none, 5, false, 1192, 1191, 67, 83),
  (yX7_go, cX7_go, 5, (some .int), 4, false, 1188, 1186, 1187, 83),
  (yX7_firstOther, cX7_firstOther, 5, (some .int), 3, false, 1201, 1200, 68, 83),
  (yX7_coastSet, cX7_coastSet, 5, (some .int), 2, false, 1205, 1204, 69, 83),
  (yX7_tells, cX7_tells, 12, (some .int), 4, false, 1196, 1194, 1195, 83),
  (yX7_film, cX7_film, 6, (some .int), 3, false, 1209, 1207, 1208, 83),
  (yX7_shoeDrawn, cX7_shoeDrawn, 9, (some .int), 3, false, 1218, 1217, 70, 83),
  (yX7_drawn, cX7_drawn, 4, (some .int), 3, false, 1213, 1211, 1212, 83),
  (yX7_chance, cX7_chance, 9, (some .long), 5, false, 1223, 1221, 1222, 83),
  (yX7_image, cX7_image, 2, (some .int), 0, false, 1229, 1227, 1228, 83),
  (yX7_back, cX7_back, 2, (some .int), 0, false, 1233, 1231, 1232, 83),
  (yX7_count, cX7_count, 4, (some .int), 1, false, 1237, 1235, 1236, 83),
  (yX7_isSheet, cX7_isSheet, 1, (some .boolean), 1, true, 1153, 1152, 0, 83),
  (yX7_sheet, cX7_sheet, 5, (some .int), 3, false, 1157, 1155, 1156, 83),
  (yX7_cell, cX7_cell, 4, (some .int), 3, false, 1242, 1240, 1241, 83),
  (yX7_copy, cX7_copy, 9, (some .int), 5, false, 1246, 1244, 1245, 83),
  (yX7_people, cX7_people, 8, (some .int), 4, false, 1250, 1248, 1249, 83),
  (yX7_over, cX7_over, 1, (some .int), 1, true, 1258, 1257, 0, 83),
  (yX7_taken, cX7_taken, 4, (some .int), 2, false, 1255, 1253, 1254, 83)]
set_option maxRecDepth 20000 in
theorem cd0 : lw_tbl[179]? = some (Cond.code yX0_init cX0_init 1 none) := by rfl
set_option maxRecDepth 20000 in
theorem cd1 : lw_tbl[626]? = some (Cond.code yX0_search cX0_search 4 none) := by rfl
set_option maxRecDepth 20000 in
theorem cd2 : lw_tbl[630]? = some (Cond.code yX0_clear cX0_clear 2 none) := by rfl
set_option maxRecDepth 20000 in
theorem cd3 : lw_tbl[634]? = some (Cond.code yX0_isInShoe cX0_isInShoe 3 (some .boolean)) := by rfl
set_option maxRecDepth 20000 in
theorem cd4 : lw_tbl[638]? = some (Cond.code yX0_found cX0_found 5 none) := by rfl
set_option maxRecDepth 20000 in
theorem cd5 : lw_tbl[642]? = some (Cond.code yX0_stepOn cX0_stepOn 3 none) := by rfl
set_option maxRecDepth 20000 in
theorem cd6 : lw_tbl[646]? = some (Cond.code yX0_takeUp cX0_takeUp 5 none) := by rfl
set_option maxRecDepth 20000 in
theorem cd7 : lw_tbl[511]? = some (Cond.code yX1_takes cX1_takes 4 (some .int)) := by rfl
set_option maxRecDepth 20000 in
theorem cd8 : lw_tbl[514]? = some (Cond.code yX1_takesUnbounded cX1_takesUnbounded 4 (some .int)) := by rfl
set_option maxRecDepth 20000 in
theorem cd9 : lw_tbl[492]? = some (Cond.code yX1_keeps cX1_keeps 3 (some .int)) := by rfl
set_option maxRecDepth 20000 in
theorem cd10 : lw_tbl[500]? = some (Cond.code yX1_sure cX1_sure 3 (some .int)) := by rfl
set_option maxRecDepth 20000 in
theorem cd11 : lw_tbl[768]? = some (Cond.code yX1_isUnder cX1_isUnder 2 (some .boolean)) := by rfl
set_option maxRecDepth 20000 in
theorem cd12 : lw_tbl[138]? = some (Cond.code yX2_init cX2_init 1 none) := by rfl
set_option maxRecDepth 20000 in
theorem cd13 : lw_tbl[298]? = some (Cond.code yX2_add cX2_add 2 (some .int)) := by rfl
set_option maxRecDepth 20000 in
theorem cd14 : lw_tbl[306]? = some (Cond.code yX2_read cX2_read 2 (some .int)) := by rfl
set_option maxRecDepth 20000 in
theorem cd15 : lw_tbl[350]? = some (Cond.code yX2_readLevel cX2_readLevel 6 (some .boolean)) := by rfl
set_option maxRecDepth 20000 in
theorem cd16 : lw_tbl[362]? = some (Cond.code yX2_readNot cX2_readNot 2 (some .boolean)) := by rfl
set_option maxRecDepth 20000 in
theorem cd17 : lw_tbl[354]? = some (Cond.code yX2_readOne cX2_readOne 3 (some .boolean)) := by rfl
set_option maxRecDepth 20000 in
theorem cd18 : lw_tbl[365]? = some (Cond.code yX2_levelOf cX2_levelOf 1 (some .int)) := by rfl
set_option maxRecDepth 20000 in
theorem cd19 : lw_tbl[368]? = some (Cond.code yX2_stepOf cX2_stepOf 1 (some .int)) := by rfl
set_option maxRecDepth 20000 in
theorem cd20 : lw_tbl[358]? = some (Cond.code yX2_put cX2_put 2 none) := by rfl
set_option maxRecDepth 20000 in
theorem cd21 : lw_tbl[310]? = some (Cond.code yX2_next cX2_next 1 none) := by rfl
set_option maxRecDepth 20000 in
theorem cd22 : lw_tbl[318]? = some (Cond.code yX2_nextWord cX2_nextWord 3 none) := by rfl
set_option maxRecDepth 20000 in
theorem cd23 : lw_tbl[343]? = some (Cond.code yX2_nextNumber cX2_nextNumber 1 none) := by rfl
set_option maxRecDepth 20000 in
theorem cd24 : lw_tbl[314]? = some (Cond.code yX2_isIn cX2_isIn 4 (some .boolean)) := by rfl
set_option maxRecDepth 20000 in
theorem cd25 : lw_tbl[346]? = some (Cond.code yX2_isSign cX2_isSign 1 (some .boolean)) := by rfl
set_option maxRecDepth 20000 in
theorem cd26 : lw_tbl[337]? = some (Cond.code yX2_isToken cX2_isToken 3 (some .boolean)) := by rfl
set_option maxRecDepth 20000 in
theorem cd27 : lw_tbl[321]? = some (Cond.code yX2_wordOf cX2_wordOf 1 (some (.object "java/lang/String"))) := by rfl
set_option maxRecDepth 20000 in
theorem cd28 : lw_tbl[227]? = some (Cond.code yX3_init cX3_init 1 none) := by rfl
set_option maxRecDepth 20000 in
theorem cd29 : lw_tbl[740]? = some (Cond.code yX3_isSort cX3_isSort 1 (some .boolean)) := by rfl
set_option maxRecDepth 20000 in
theorem cd30 : lw_tbl[618]? = some (Cond.code yX3_isMissing cX3_isMissing 1 (some .boolean)) := by rfl
set_option maxRecDepth 20000 in
theorem cd31 : lw_tbl[748]? = some (Cond.code yX3_has cX3_has 2 (some .boolean)) := by rfl
set_option maxRecDepth 20000 in
theorem cd32 : lw_tbl[756]? = some (Cond.code yX3_hasRun cX3_hasRun 3 (some .boolean)) := by rfl
set_option maxRecDepth 20000 in
theorem cd33 : lw_tbl[597]? = some (Cond.code yX3_becomes cX3_becomes 4 none) := by rfl
set_option maxRecDepth 20000 in
theorem cd34 : lw_tbl[601]? = some (Cond.code yX3_put cX3_put 3 none) := by rfl
set_option maxRecDepth 20000 in
theorem cd35 : lw_tbl[605]? = some (Cond.code yX3_all cX3_all 1 (some .int)) := by rfl
set_option maxRecDepth 20000 in
theorem cd36 : lw_tbl[215]? = some (Cond.code yX4_init cX4_init 1 none) := by rfl
set_option maxRecDepth 20000 in
theorem cd37 : lw_tbl[372]? = some (Cond.code yX4_becomes cX4_becomes 3 none) := by rfl
set_option maxRecDepth 20000 in
theorem cd38 : lw_tbl[480]? = some (Cond.code yX4_value cX4_value 7 (some .int)) := by rfl
set_option maxRecDepth 20000 in
theorem cd39 : lw_tbl[483]? = some (Cond.code yX4_joined cX4_joined 3 (some .int)) := by rfl
set_option maxRecDepth 20000 in
theorem cd40 : lw_tbl[98]? = some (Cond.code yX5_init cX5_init 1 none) := by rfl
set_option maxRecDepth 20000 in
theorem cd41 : lw_tbl[431]? = some (Cond.code yX5_has cX5_has 2 (some .boolean)) := by rfl
set_option maxRecDepth 20000 in
theorem cd42 : lw_tbl[456]? = some (Cond.code yX5_comes cX5_comes 4 (some .int)) := by rfl
set_option maxRecDepth 20000 in
theorem cd43 : lw_tbl[720]? = some (Cond.code yX5_becomes cX5_becomes 2 none) := by rfl
set_option maxRecDepth 20000 in
theorem cd44 : lw_tbl[445]? = some (Cond.code yX5_allOnCoast cX5_allOnCoast 2 (some .int)) := by rfl
set_option maxRecDepth 20000 in
theorem cd45 : lw_tbl[435]? = some (Cond.code yX5_allInShoe cX5_allInShoe 2 (some .int)) := by rfl
set_option maxRecDepth 20000 in
theorem cd46 : lw_tbl[733]? = some (Cond.code yX5_allInShoes cX5_allInShoes 1 (some .int)) := by rfl
set_option maxRecDepth 20000 in
theorem cd47 : lw_tbl[542]? = some (Cond.code yX5_apart cX5_apart 5 (some .int)) := by rfl
set_option maxRecDepth 20000 in
theorem cd48 : lw_tbl[562]? = some (Cond.code yX5_oddest cX5_oddest 5 (some .int)) := by rfl
set_option maxRecDepth 20000 in
theorem cd49 : lw_tbl[557]? = some (Cond.code yX5_poorest cX5_poorest 3 (some .int)) := by rfl
set_option maxRecDepth 20000 in
theorem cd50 : lw_tbl[90]? = some (Cond.code yX6_init cX6_init 2 none) := by rfl
set_option maxRecDepth 20000 in
theorem cd51 : lw_tbl[417]? = some (Cond.code yX6_set cX6_set 5 (some .int)) := by rfl
set_option maxRecDepth 20000 in
theorem cd52 : lw_tbl[452]? = some (Cond.code yX6_person cX6_person 3 (some .int)) := by rfl
set_option maxRecDepth 20000 in
theorem cd53 : lw_tbl[421]? = some (Cond.code yX6_told cX6_told 3 (some .int)) := by rfl
set_option maxRecDepth 20000 in
theorem cd54 : lw_tbl[461]? = some (Cond.code yX6_asks cX6_asks 4 (some .int)) := by rfl
set_option maxRecDepth 20000 in
theorem cd55 : lw_tbl[294]? = some (Cond.code yX6_feed cX6_feed 2 (some .int)) := by rfl
set_option maxRecDepth 20000 in
theorem cd56 : lw_tbl[302]? = some (Cond.code yX6_text cX6_text 2 (some .int)) := by rfl
set_option maxRecDepth 20000 in
theorem cd57 : lw_tbl[521]? = some (Cond.code yX6_force cX6_force 3 (some .int)) := by rfl
set_option maxRecDepth 20000 in
theorem cd58 : lw_tbl[525]? = some (Cond.code yX6_stay cX6_stay 5 (some .int)) := by rfl
set_option maxRecDepth 20000 in
theorem cd59 : lw_tbl[529]? = some (Cond.code yX6_shake cX6_shake 4 (some .int)) := by rfl
set_option maxRecDepth 20000 in
theorem cd60 : lw_tbl[534]? = some (Cond.code yX6_like cX6_like 4 (some .int)) := by rfl
set_option maxRecDepth 20000 in
theorem cd61 : lw_tbl[553]? = some (Cond.code yX6_odd cX6_odd 4 (some .int)) := by rfl
set_option maxRecDepth 20000 in
theorem cd62 : lw_tbl[567]? = some (Cond.code yX6_mean cX6_mean 4 (some .long)) := by rfl
set_option maxRecDepth 20000 in
theorem cd63 : lw_tbl[578]? = some (Cond.code yX6_stays cX6_stays 4 (some .int)) := by rfl
set_option maxRecDepth 20000 in
theorem cd64 : lw_tbl[590]? = some (Cond.code yX6_pack cX6_pack 6 (some .int)) := by rfl
set_option maxRecDepth 20000 in
theorem cd65 : lw_tbl[610]? = some (Cond.code yX6_fit cX6_fit 5 (some .int)) := by rfl
set_option maxRecDepth 20000 in
theorem cd66 : lw_tbl[650]? = some (Cond.code yX6_share cX6_share 5 (some .long)) := by rfl
set_option maxRecDepth 20000 in
theorem cd67 : lw_tbl[654]? = some (Cond.code yX6_go cX6_go 10 (some .int)) := by rfl
set_option maxRecDepth 20000 in
theorem cd68 : lw_tbl[673]? = some (Cond.code yX6_tells cX6_tells 6 (some .int)) := by rfl
set_option maxRecDepth 20000 in
theorem cd69 : lw_tbl[693]? = some (Cond.code yX6_film cX6_film 6 (some .int)) := by rfl
set_option maxRecDepth 20000 in
theorem cd70 : lw_tbl[697]? = some (Cond.code yX6_drawn cX6_drawn 4 (some .int)) := by rfl
set_option maxRecDepth 20000 in
theorem cd71 : lw_tbl[711]? = some (Cond.code yX6_chance cX6_chance 8 (some .long)) := by rfl
set_option maxRecDepth 20000 in
theorem cd72 : lw_tbl[716]? = some (Cond.code yX6_image cX6_image 1 (some .int)) := by rfl
set_option maxRecDepth 20000 in
theorem cd73 : lw_tbl[725]? = some (Cond.code yX6_back cX6_back 1 (some .int)) := by rfl
set_option maxRecDepth 20000 in
theorem cd74 : lw_tbl[729]? = some (Cond.code yX6_count cX6_count 2 (some .int)) := by rfl
set_option maxRecDepth 20000 in
theorem cd75 : lw_tbl[737]? = some (Cond.code yX6_sheet cX6_sheet 4 (some .int)) := by rfl
set_option maxRecDepth 20000 in
theorem cd76 : lw_tbl[744]? = some (Cond.code yX6_cell cX6_cell 5 (some .int)) := by rfl
set_option maxRecDepth 20000 in
theorem cd77 : lw_tbl[752]? = some (Cond.code yX6_copy cX6_copy 8 (some .int)) := by rfl
set_option maxRecDepth 20000 in
theorem cd78 : lw_tbl[760]? = some (Cond.code yX6_people cX6_people 9 (some .int)) := by rfl
set_option maxRecDepth 20000 in
theorem cd79 : lw_tbl[765]? = some (Cond.code yX6_taken cX6_taken 3 (some .int)) := by rfl
set_option maxRecDepth 20000 in
theorem cd80 : lw_tbl[441]? = some (Cond.code yX6_isCoast cX6_isCoast 1 (some .boolean)) := by rfl
set_option maxRecDepth 20000 in
theorem cd81 : lw_tbl[464]? = some (Cond.code yX6_isMark cX6_isMark 1 (some .boolean)) := by rfl
set_option maxRecDepth 20000 in
theorem cd82 : lw_tbl[570]? = some (Cond.code yX6_isPart cX6_isPart 1 (some .boolean)) := by rfl
set_option maxRecDepth 20000 in
theorem cd83 : lw_tbl[593]? = some (Cond.code yX6_isSheet cX6_isSheet 1 (some .boolean)) := by rfl
set_option maxRecDepth 20000 in
theorem cd84 : lw_tbl[538]? = some (Cond.code yX6_areTwo cX6_areTwo 3 (some .boolean)) := by rfl
set_option maxRecDepth 20000 in
theorem cd85 : lw_tbl[424]? = some (Cond.code yX6_isPlace cX6_isPlace 2 (some .boolean)) := by rfl
set_option maxRecDepth 20000 in
theorem cd86 : lw_tbl[427]? = some (Cond.code yX6_placeOf cX6_placeOf 1 (some .int)) := by rfl
set_option maxRecDepth 20000 in
theorem cd87 : lw_tbl[448]? = some (Cond.code yX6_mostOf cX6_mostOf 1 (some .int)) := by rfl
set_option maxRecDepth 20000 in
theorem cd88 : lw_tbl[581]? = some (Cond.code yX6_areStays cX6_areStays 3 (some .boolean)) := by rfl
set_option maxRecDepth 20000 in
theorem cd89 : lw_tbl[476]? = some (Cond.code yX6_valueOf cX6_valueOf 5 (some .int)) := by rfl
set_option maxRecDepth 20000 in
theorem cd90 : lw_tbl[472]? = some (Cond.code yX6_nameAll cX6_nameAll 7 none) := by rfl
set_option maxRecDepth 20000 in
theorem cd91 : lw_tbl[508]? = some (Cond.code yX6_takesOf cX6_takesOf 7 (some .int)) := by rfl
set_option maxRecDepth 20000 in
theorem cd92 : lw_tbl[504]? = some (Cond.code yX6_takesNow cX6_takesNow 4 (some .int)) := by rfl
set_option maxRecDepth 20000 in
theorem cd93 : lw_tbl[468]? = some (Cond.code yX6_keepsOf cX6_keepsOf 4 (some .int)) := by rfl
set_option maxRecDepth 20000 in
theorem cd94 : lw_tbl[497]? = some (Cond.code yX6_sureOf cX6_sureOf 5 (some .int)) := by rfl
set_option maxRecDepth 20000 in
theorem cd95 : lw_tbl[549]? = some (Cond.code yX6_tellsExaminer cX6_tellsExaminer 5 (some .int)) := by rfl
set_option maxRecDepth 20000 in
theorem cd96 : lw_tbl[622]? = some (Cond.code yX6_tellDailyTakes cX6_tellDailyTakes 6 none) := by rfl
set_option maxRecDepth 20000 in
theorem cd97 : lw_tbl[586]? = some (Cond.code yX6_takesByStays cX6_takesByStays 7 (some .int)) := by rfl
set_option maxRecDepth 20000 in
theorem cd98 : lw_tbl[614]? = some (Cond.code yX6_findFits cX6_findFits 3 (some .int)) := by rfl
set_option maxRecDepth 20000 in
theorem cd99 : lw_tbl[657]? = some (Cond.code yX6_neverGoesBack cX6_neverGoesBack 6 (some .boolean)) := by rfl
set_option maxRecDepth 20000 in
theorem cd100 : lw_tbl[669]? = some (Cond.code yX6_digitsOfWay cX6_digitsOfWay 6 (some .int)) := by rfl
set_option maxRecDepth 20000 in
theorem cd101 : lw_tbl[661]? = some (Cond.code yX6_apartAfter cX6_apartAfter 8 (some .int)) := by rfl
set_option maxRecDepth 20000 in
theorem cd102 : lw_tbl[665]? = some (Cond.code yX6_goInThought cX6_goInThought 3 none) := by rfl
set_option maxRecDepth 20000 in
theorem cd103 : lw_tbl[701]? = some (Cond.code yX6_allAfterDrawn cX6_allAfterDrawn 6 (some .int)) := by rfl
set_option maxRecDepth 20000 in
theorem cd104 : lw_tbl[706]? = some (Cond.code yX6_stayInThought cX6_stayInThought 6 none) := by rfl
set_option maxRecDepth 20000 in
theorem cd105 : lw_tbl[681]? = some (Cond.code yX6_firstOtherwise cX6_firstOtherwise 12 (some .int)) := by rfl
set_option maxRecDepth 20000 in
theorem cd106 : lw_tbl[677]? = some (Cond.code yX6_bitsThatTell cX6_bitsThatTell 8 (some .int)) := by rfl
set_option maxRecDepth 20000 in
theorem cd107 : lw_tbl[685]? = some (Cond.code yX6_daysThatTell cX6_daysThatTell 6 (some .int)) := by rfl
set_option maxRecDepth 20000 in
theorem cd108 : lw_tbl[689]? = some (Cond.code yX6_leastDayThatTells cX6_leastDayThatTells 5 (some .int)) := by rfl
set_option maxRecDepth 20000 in
theorem cd109 : lw_tbl[438]? = some (Cond.code yX6_sum cX6_sum 5 (some .int)) := by rfl
set_option maxRecDepth 20000 in
theorem cd110 : lw_tbl[574]? = some (Cond.code yX6_lowestTerms cX6_lowestTerms 7 (some .long)) := by rfl
set_option maxRecDepth 20000 in
theorem cd111 : lw_tbl[934]? = some (Cond.code yX7_in cX7_in 6 (some .boolean)) := by rfl
set_option maxRecDepth 20000 in
theorem cd112 : lw_tbl[1078]? = some (Cond.code yX7_within cX7_within 3 (some .int)) := by rfl
set_option maxRecDepth 20000 in
theorem cd113 : lw_tbl[773]? = some (Cond.code yX7_init cX7_init 1 none) := by rfl
set_option maxRecDepth 20000 in
theorem cd114 : lw_tbl[778]? = some (Cond.code yX7_spell cX7_spell 10 none) := by rfl
set_option maxRecDepth 20000 in
theorem cd115 : lw_tbl[947]? = some (Cond.code yX7_isOne cX7_isOne 2 (some .boolean)) := by rfl
set_option maxRecDepth 20000 in
theorem cd116 : lw_tbl[950]? = some (Cond.code yX7_isCoast cX7_isCoast 1 (some .boolean)) := by rfl
set_option maxRecDepth 20000 in
theorem cd117 : lw_tbl[942]? = some (Cond.code yX7_isMark cX7_isMark 1 (some .boolean)) := by rfl
set_option maxRecDepth 20000 in
theorem cd118 : lw_tbl[938]? = some (Cond.code yX7_isOf cX7_isOf 3 (some .boolean)) := by rfl
set_option maxRecDepth 20000 in
theorem cd119 : lw_tbl[953]? = some (Cond.code yX7_mostOf cX7_mostOf 1 (some .int)) := by rfl
set_option maxRecDepth 20000 in
theorem cd120 : lw_tbl[961]? = some (Cond.code yX7_placeOf cX7_placeOf 1 (some .int)) := by rfl
set_option maxRecDepth 20000 in
theorem cd121 : lw_tbl[930]? = some (Cond.code yX7_set cX7_set 5 (some .int)) := by rfl
set_option maxRecDepth 20000 in
theorem cd122 : lw_tbl[973]? = some (Cond.code yX7_lays cX7_lays 4 none) := by rfl
set_option maxRecDepth 20000 in
theorem cd123 : lw_tbl[977]? = some (Cond.code yX7_person cX7_person 4 (some .int)) := by rfl
set_option maxRecDepth 20000 in
theorem cd124 : lw_tbl[957]? = some (Cond.code yX7_told cX7_told 3 (some .int)) := by rfl
set_option maxRecDepth 20000 in
theorem cd125 : lw_tbl[965]? = some (Cond.code yX7_shoeOf cX7_shoeOf 4 (some .int)) := by rfl
set_option maxRecDepth 20000 in
theorem cd126 : lw_tbl[969]? = some (Cond.code yX7_coastOf cX7_coastOf 4 (some .int)) := by rfl
set_option maxRecDepth 20000 in
theorem cd127 : lw_tbl[983]? = some (Cond.code yX7_feed cX7_feed 2 (some .int)) := by rfl
set_option maxRecDepth 20000 in
theorem cd128 : lw_tbl[1000]? = some (Cond.code yX7_byteAt cX7_byteAt 2 (some .int)) := by rfl
set_option maxRecDepth 20000 in
theorem cd129 : lw_tbl[996]? = some (Cond.code yX7_next cX7_next 3 none) := by rfl
set_option maxRecDepth 20000 in
theorem cd130 : lw_tbl[1021]? = some (Cond.code yX7_fail cX7_fail 1 none) := by rfl
set_option maxRecDepth 20000 in
theorem cd131 : lw_tbl[1013]? = some (Cond.code yX7_isLetter cX7_isLetter 3 (some .boolean)) := by rfl
set_option maxRecDepth 20000 in
theorem cd132 : lw_tbl[1009]? = some (Cond.code yX7_isWord cX7_isWord 9 (some .boolean)) := by rfl
set_option maxRecDepth 20000 in
theorem cd133 : lw_tbl[1053]? = some (Cond.code yX7_isSign cX7_isSign 2 (some .boolean)) := by rfl
set_option maxRecDepth 20000 in
theorem cd134 : lw_tbl[1037]? = some (Cond.code yX7_opens cX7_opens 1 (some .boolean)) := by rfl
set_option maxRecDepth 20000 in
theorem cd135 : lw_tbl[1057]? = some (Cond.code yX7_name cX7_name 1 (some .int)) := by rfl
set_option maxRecDepth 20000 in
theorem cd136 : lw_tbl[1049]? = some (Cond.code yX7_atom cX7_atom 2 (some .int)) := by rfl
set_option maxRecDepth 20000 in
theorem cd137 : lw_tbl[1045]? = some (Cond.code yX7_term cX7_term 2 (some .int)) := by rfl
set_option maxRecDepth 20000 in
theorem cd138 : lw_tbl[1041]? = some (Cond.code yX7_added cX7_added 4 (some .int)) := by rfl
set_option maxRecDepth 20000 in
theorem cd139 : lw_tbl[1033]? = some (Cond.code yX7_not cX7_not 4 (some .int)) := by rfl
set_option maxRecDepth 20000 in
theorem cd140 : lw_tbl[1029]? = some (Cond.code yX7_both cX7_both 3 (some .int)) := by rfl
set_option maxRecDepth 20000 in
theorem cd141 : lw_tbl[1025]? = some (Cond.code yX7_either cX7_either 3 (some .int)) := by rfl
set_option maxRecDepth 20000 in
theorem cd142 : lw_tbl[1017]? = some (Cond.code yX7_part cX7_part 3 (some .int)) := by rfl
set_option maxRecDepth 20000 in
theorem cd143 : lw_tbl[992]? = some (Cond.code yX7_read cX7_read 6 (some .int)) := by rfl
set_option maxRecDepth 20000 in
theorem cd144 : lw_tbl[988]? = some (Cond.code yX7_text cX7_text 2 (some .int)) := by rfl
set_option maxRecDepth 20000 in
theorem cd145 : lw_tbl[1063]? = some (Cond.code yX7_force cX7_force 3 (some .int)) := by rfl
set_option maxRecDepth 20000 in
theorem cd146 : lw_tbl[1075]? = some (Cond.code yX7_says cX7_says 7 (some .int)) := by rfl
set_option maxRecDepth 20000 in
theorem cd147 : lw_tbl[1071]? = some (Cond.code yX7_takesOf cX7_takesOf 8 (some .int)) := by rfl
set_option maxRecDepth 20000 in
theorem cd148 : lw_tbl[1082]? = some (Cond.code yX7_keepsOf cX7_keepsOf 6 (some .int)) := by rfl
set_option maxRecDepth 20000 in
theorem cd149 : lw_tbl[1086]? = some (Cond.code yX7_sureOf cX7_sureOf 7 (some .int)) := by rfl
set_option maxRecDepth 20000 in
theorem cd150 : lw_tbl[1067]? = some (Cond.code yX7_asks cX7_asks 4 (some .int)) := by rfl
set_option maxRecDepth 20000 in
theorem cd151 : lw_tbl[1094]? = some (Cond.code yX7_stays1 cX7_stays1 4 none) := by rfl
set_option maxRecDepth 20000 in
theorem cd152 : lw_tbl[1090]? = some (Cond.code yX7_stay cX7_stay 3 (some .int)) := by rfl
set_option maxRecDepth 20000 in
theorem cd153 : lw_tbl[1098]? = some (Cond.code yX7_shake cX7_shake 4 (some .int)) := by rfl
set_option maxRecDepth 20000 in
theorem cd154 : lw_tbl[1110]? = some (Cond.code yX7_apart cX7_apart 6 (some .int)) := by rfl
set_option maxRecDepth 20000 in
theorem cd155 : lw_tbl[1114]? = some (Cond.code yX7_tellsOf cX7_tellsOf 5 (some .int)) := by rfl
set_option maxRecDepth 20000 in
theorem cd156 : lw_tbl[1106]? = some (Cond.code yX7_areTwo cX7_areTwo 3 (some .boolean)) := by rfl
set_option maxRecDepth 20000 in
theorem cd157 : lw_tbl[1102]? = some (Cond.code yX7_like cX7_like 4 (some .int)) := by rfl
set_option maxRecDepth 20000 in
theorem cd158 : lw_tbl[1118]? = some (Cond.code yX7_odd cX7_odd 7 (some .int)) := by rfl
set_option maxRecDepth 20000 in
theorem cd159 : lw_tbl[1127]? = some (Cond.code yX7_lowest cX7_lowest 11 (some .long)) := by rfl
set_option maxRecDepth 20000 in
theorem cd160 : lw_tbl[1123]? = some (Cond.code yX7_mean cX7_mean 4 (some .long)) := by rfl
set_option maxRecDepth 20000 in
theorem cd161 : lw_tbl[1139]? = some (Cond.code yX7_tables cX7_tables 4 none) := by rfl
set_option maxRecDepth 20000 in
theorem cd162 : lw_tbl[1146]? = some (Cond.code yX7_daysOn cX7_daysOn 2 (some .int)) := by rfl
set_option maxRecDepth 20000 in
theorem cd163 : lw_tbl[1143]? = some (Cond.code yX7_packed cX7_packed 5 (some .int)) := by rfl
set_option maxRecDepth 20000 in
theorem cd164 : lw_tbl[1134]? = some (Cond.code yX7_wayOf cX7_wayOf 4 (some .int)) := by rfl
set_option maxRecDepth 20000 in
theorem cd165 : lw_tbl[1180]? = some (Cond.code yX7_digitsOf cX7_digitsOf 3 (some .int)) := by rfl
set_option maxRecDepth 20000 in
theorem cd166 : lw_tbl[1131]? = some (Cond.code yX7_stays cX7_stays 5 (some .int)) := by rfl
set_option maxRecDepth 20000 in
theorem cd167 : lw_tbl[1150]? = some (Cond.code yX7_pack cX7_pack 7 (some .int)) := by rfl
set_option maxRecDepth 20000 in
theorem cd168 : lw_tbl[1171]? = some (Cond.code yX7_fits cX7_fits 4 (some .boolean)) := by rfl
set_option maxRecDepth 20000 in
theorem cd169 : lw_tbl[1177]? = some (Cond.code yX7_lengthOf cX7_lengthOf 3 (some .int)) := by rfl
set_option maxRecDepth 20000 in
theorem cd170 : lw_tbl[1174]? = some (Cond.code yX7_coastsOf cX7_coastsOf 3 (some .int)) := by rfl
set_option maxRecDepth 20000 in
theorem cd171 : lw_tbl[1167]? = some (Cond.code yX7_looks cX7_looks 6 none) := by rfl
set_option maxRecDepth 20000 in
theorem cd172 : lw_tbl[1162]? = some (Cond.code yX7_fit cX7_fit 4 (some .int)) := by rfl
set_option maxRecDepth 20000 in
theorem cd173 : lw_tbl[1184]? = some (Cond.code yX7_share cX7_share 5 (some .long)) := by rfl
set_option maxRecDepth 20000 in
theorem cd174 : lw_tbl[1192]? = some (Cond.code yX7_goes cX7_goes 9 none) := by rfl
set_option maxRecDepth 20000 in
theorem cd175 : lw_tbl[1188]? = some (Cond.code yX7_go cX7_go 5 (some .int)) := by rfl
set_option maxRecDepth 20000 in
theorem cd176 : lw_tbl[1201]? = some (Cond.code yX7_firstOther cX7_firstOther 5 (some .int)) := by rfl
set_option maxRecDepth 20000 in
theorem cd177 : lw_tbl[1205]? = some (Cond.code yX7_coastSet cX7_coastSet 5 (some .int)) := by rfl
set_option maxRecDepth 20000 in
theorem cd178 : lw_tbl[1196]? = some (Cond.code yX7_tells cX7_tells 12 (some .int)) := by rfl
set_option maxRecDepth 20000 in
theorem cd179 : lw_tbl[1209]? = some (Cond.code yX7_film cX7_film 6 (some .int)) := by rfl
set_option maxRecDepth 20000 in
theorem cd180 : lw_tbl[1218]? = some (Cond.code yX7_shoeDrawn cX7_shoeDrawn 9 (some .int)) := by rfl
set_option maxRecDepth 20000 in
theorem cd181 : lw_tbl[1213]? = some (Cond.code yX7_drawn cX7_drawn 4 (some .int)) := by rfl
set_option maxRecDepth 20000 in
theorem cd182 : lw_tbl[1223]? = some (Cond.code yX7_chance cX7_chance 9 (some .long)) := by rfl
set_option maxRecDepth 20000 in
theorem cd183 : lw_tbl[1229]? = some (Cond.code yX7_image cX7_image 2 (some .int)) := by rfl
set_option maxRecDepth 20000 in
theorem cd184 : lw_tbl[1233]? = some (Cond.code yX7_back cX7_back 2 (some .int)) := by rfl
set_option maxRecDepth 20000 in
theorem cd185 : lw_tbl[1237]? = some (Cond.code yX7_count cX7_count 4 (some .int)) := by rfl
set_option maxRecDepth 20000 in
theorem cd186 : lw_tbl[1153]? = some (Cond.code yX7_isSheet cX7_isSheet 1 (some .boolean)) := by rfl
set_option maxRecDepth 20000 in
theorem cd187 : lw_tbl[1157]? = some (Cond.code yX7_sheet cX7_sheet 5 (some .int)) := by rfl
set_option maxRecDepth 20000 in
theorem cd188 : lw_tbl[1242]? = some (Cond.code yX7_cell cX7_cell 4 (some .int)) := by rfl
set_option maxRecDepth 20000 in
theorem cd189 : lw_tbl[1246]? = some (Cond.code yX7_copy cX7_copy 9 (some .int)) := by rfl
set_option maxRecDepth 20000 in
theorem cd190 : lw_tbl[1250]? = some (Cond.code yX7_people cX7_people 8 (some .int)) := by rfl
set_option maxRecDepth 20000 in
theorem cd191 : lw_tbl[1258]? = some (Cond.code yX7_over cX7_over 1 (some .int)) := by rfl
set_option maxRecDepth 20000 in
theorem cd192 : lw_tbl[1255]? = some (Cond.code yX7_taken cX7_taken 4 (some .int)) := by rfl
def okMB (q : MD) : Bool := match q with
  | (y, cc, ml, ret, n, stt, pc, pi, ps, pz) => plainName y.cls && (cond stt (decide (lw_tbl[pi]? = some (.static y))) (decide (lw_tbl[pi]? = some (.instanceMethod y)) && (decide (y.name = "<init>") || decide (lw_tbl[ps]? = some (.selects y.cls y y)))) && (decide (lw_tbl[pz]? = some (.initialized y.cls)) &&
    (decide (y.cls ≠ "java/lang/invoke/MethodHandle" ∧ y.cls ≠ "java/lang/invoke/VarHandle") && (decide ((parseMethodDescriptor y.desc).map (fun d => d.parameters.length) = some n) && Nat.ble ml 40))))
set_option maxRecDepth 20000 in
theorem okM_all : mdL.all okMB = true := by decide +kernel
def cdP (q : MD) : Prop := lw_tbl[q.2.2.2.2.2.2.1]? = some (Cond.code q.1 q.2.1 q.2.2.1 q.2.2.2.1)
theorem cd_all : ∀ q ∈ mdL, cdP q := by
  unfold mdL
  refine List.forall_mem_cons.mpr ⟨cd0, ?_⟩
  refine List.forall_mem_cons.mpr ⟨cd1, ?_⟩
  refine List.forall_mem_cons.mpr ⟨cd2, ?_⟩
  refine List.forall_mem_cons.mpr ⟨cd3, ?_⟩
  refine List.forall_mem_cons.mpr ⟨cd4, ?_⟩
  refine List.forall_mem_cons.mpr ⟨cd5, ?_⟩
  refine List.forall_mem_cons.mpr ⟨cd6, ?_⟩
  refine List.forall_mem_cons.mpr ⟨cd7, ?_⟩
  refine List.forall_mem_cons.mpr ⟨cd8, ?_⟩
  refine List.forall_mem_cons.mpr ⟨cd9, ?_⟩
  refine List.forall_mem_cons.mpr ⟨cd10, ?_⟩
  refine List.forall_mem_cons.mpr ⟨cd11, ?_⟩
  refine List.forall_mem_cons.mpr ⟨cd12, ?_⟩
  refine List.forall_mem_cons.mpr ⟨cd13, ?_⟩
  refine List.forall_mem_cons.mpr ⟨cd14, ?_⟩
  refine List.forall_mem_cons.mpr ⟨cd15, ?_⟩
  refine List.forall_mem_cons.mpr ⟨cd16, ?_⟩
  refine List.forall_mem_cons.mpr ⟨cd17, ?_⟩
  refine List.forall_mem_cons.mpr ⟨cd18, ?_⟩
  refine List.forall_mem_cons.mpr ⟨cd19, ?_⟩
  refine List.forall_mem_cons.mpr ⟨cd20, ?_⟩
  refine List.forall_mem_cons.mpr ⟨cd21, ?_⟩
  refine List.forall_mem_cons.mpr ⟨cd22, ?_⟩
  refine List.forall_mem_cons.mpr ⟨cd23, ?_⟩
  refine List.forall_mem_cons.mpr ⟨cd24, ?_⟩
  refine List.forall_mem_cons.mpr ⟨cd25, ?_⟩
  refine List.forall_mem_cons.mpr ⟨cd26, ?_⟩
  refine List.forall_mem_cons.mpr ⟨cd27, ?_⟩
  refine List.forall_mem_cons.mpr ⟨cd28, ?_⟩
  refine List.forall_mem_cons.mpr ⟨cd29, ?_⟩
  refine List.forall_mem_cons.mpr ⟨cd30, ?_⟩
  refine List.forall_mem_cons.mpr ⟨cd31, ?_⟩
  refine List.forall_mem_cons.mpr ⟨cd32, ?_⟩
  refine List.forall_mem_cons.mpr ⟨cd33, ?_⟩
  refine List.forall_mem_cons.mpr ⟨cd34, ?_⟩
  refine List.forall_mem_cons.mpr ⟨cd35, ?_⟩
  refine List.forall_mem_cons.mpr ⟨cd36, ?_⟩
  refine List.forall_mem_cons.mpr ⟨cd37, ?_⟩
  refine List.forall_mem_cons.mpr ⟨cd38, ?_⟩
  refine List.forall_mem_cons.mpr ⟨cd39, ?_⟩
  refine List.forall_mem_cons.mpr ⟨cd40, ?_⟩
  refine List.forall_mem_cons.mpr ⟨cd41, ?_⟩
  refine List.forall_mem_cons.mpr ⟨cd42, ?_⟩
  refine List.forall_mem_cons.mpr ⟨cd43, ?_⟩
  refine List.forall_mem_cons.mpr ⟨cd44, ?_⟩
  refine List.forall_mem_cons.mpr ⟨cd45, ?_⟩
  refine List.forall_mem_cons.mpr ⟨cd46, ?_⟩
  refine List.forall_mem_cons.mpr ⟨cd47, ?_⟩
  refine List.forall_mem_cons.mpr ⟨cd48, ?_⟩
  refine List.forall_mem_cons.mpr ⟨cd49, ?_⟩
  refine List.forall_mem_cons.mpr ⟨cd50, ?_⟩
  refine List.forall_mem_cons.mpr ⟨cd51, ?_⟩
  refine List.forall_mem_cons.mpr ⟨cd52, ?_⟩
  refine List.forall_mem_cons.mpr ⟨cd53, ?_⟩
  refine List.forall_mem_cons.mpr ⟨cd54, ?_⟩
  refine List.forall_mem_cons.mpr ⟨cd55, ?_⟩
  refine List.forall_mem_cons.mpr ⟨cd56, ?_⟩
  refine List.forall_mem_cons.mpr ⟨cd57, ?_⟩
  refine List.forall_mem_cons.mpr ⟨cd58, ?_⟩
  refine List.forall_mem_cons.mpr ⟨cd59, ?_⟩
  refine List.forall_mem_cons.mpr ⟨cd60, ?_⟩
  refine List.forall_mem_cons.mpr ⟨cd61, ?_⟩
  refine List.forall_mem_cons.mpr ⟨cd62, ?_⟩
  refine List.forall_mem_cons.mpr ⟨cd63, ?_⟩
  refine List.forall_mem_cons.mpr ⟨cd64, ?_⟩
  refine List.forall_mem_cons.mpr ⟨cd65, ?_⟩
  refine List.forall_mem_cons.mpr ⟨cd66, ?_⟩
  refine List.forall_mem_cons.mpr ⟨cd67, ?_⟩
  refine List.forall_mem_cons.mpr ⟨cd68, ?_⟩
  refine List.forall_mem_cons.mpr ⟨cd69, ?_⟩
  refine List.forall_mem_cons.mpr ⟨cd70, ?_⟩
  refine List.forall_mem_cons.mpr ⟨cd71, ?_⟩
  refine List.forall_mem_cons.mpr ⟨cd72, ?_⟩
  refine List.forall_mem_cons.mpr ⟨cd73, ?_⟩
  refine List.forall_mem_cons.mpr ⟨cd74, ?_⟩
  refine List.forall_mem_cons.mpr ⟨cd75, ?_⟩
  refine List.forall_mem_cons.mpr ⟨cd76, ?_⟩
  refine List.forall_mem_cons.mpr ⟨cd77, ?_⟩
  refine List.forall_mem_cons.mpr ⟨cd78, ?_⟩
  refine List.forall_mem_cons.mpr ⟨cd79, ?_⟩
  refine List.forall_mem_cons.mpr ⟨cd80, ?_⟩
  refine List.forall_mem_cons.mpr ⟨cd81, ?_⟩
  refine List.forall_mem_cons.mpr ⟨cd82, ?_⟩
  refine List.forall_mem_cons.mpr ⟨cd83, ?_⟩
  refine List.forall_mem_cons.mpr ⟨cd84, ?_⟩
  refine List.forall_mem_cons.mpr ⟨cd85, ?_⟩
  refine List.forall_mem_cons.mpr ⟨cd86, ?_⟩
  refine List.forall_mem_cons.mpr ⟨cd87, ?_⟩
  refine List.forall_mem_cons.mpr ⟨cd88, ?_⟩
  refine List.forall_mem_cons.mpr ⟨cd89, ?_⟩
  refine List.forall_mem_cons.mpr ⟨cd90, ?_⟩
  refine List.forall_mem_cons.mpr ⟨cd91, ?_⟩
  refine List.forall_mem_cons.mpr ⟨cd92, ?_⟩
  refine List.forall_mem_cons.mpr ⟨cd93, ?_⟩
  refine List.forall_mem_cons.mpr ⟨cd94, ?_⟩
  refine List.forall_mem_cons.mpr ⟨cd95, ?_⟩
  refine List.forall_mem_cons.mpr ⟨cd96, ?_⟩
  refine List.forall_mem_cons.mpr ⟨cd97, ?_⟩
  refine List.forall_mem_cons.mpr ⟨cd98, ?_⟩
  refine List.forall_mem_cons.mpr ⟨cd99, ?_⟩
  refine List.forall_mem_cons.mpr ⟨cd100, ?_⟩
  refine List.forall_mem_cons.mpr ⟨cd101, ?_⟩
  refine List.forall_mem_cons.mpr ⟨cd102, ?_⟩
  refine List.forall_mem_cons.mpr ⟨cd103, ?_⟩
  refine List.forall_mem_cons.mpr ⟨cd104, ?_⟩
  refine List.forall_mem_cons.mpr ⟨cd105, ?_⟩
  refine List.forall_mem_cons.mpr ⟨cd106, ?_⟩
  refine List.forall_mem_cons.mpr ⟨cd107, ?_⟩
  refine List.forall_mem_cons.mpr ⟨cd108, ?_⟩
  refine List.forall_mem_cons.mpr ⟨cd109, ?_⟩
  refine List.forall_mem_cons.mpr ⟨cd110, ?_⟩
  refine List.forall_mem_cons.mpr ⟨cd111, ?_⟩
  refine List.forall_mem_cons.mpr ⟨cd112, ?_⟩
  refine List.forall_mem_cons.mpr ⟨cd113, ?_⟩
  refine List.forall_mem_cons.mpr ⟨cd114, ?_⟩
  refine List.forall_mem_cons.mpr ⟨cd115, ?_⟩
  refine List.forall_mem_cons.mpr ⟨cd116, ?_⟩
  refine List.forall_mem_cons.mpr ⟨cd117, ?_⟩
  refine List.forall_mem_cons.mpr ⟨cd118, ?_⟩
  refine List.forall_mem_cons.mpr ⟨cd119, ?_⟩
  refine List.forall_mem_cons.mpr ⟨cd120, ?_⟩
  refine List.forall_mem_cons.mpr ⟨cd121, ?_⟩
  refine List.forall_mem_cons.mpr ⟨cd122, ?_⟩
  refine List.forall_mem_cons.mpr ⟨cd123, ?_⟩
  refine List.forall_mem_cons.mpr ⟨cd124, ?_⟩
  refine List.forall_mem_cons.mpr ⟨cd125, ?_⟩
  refine List.forall_mem_cons.mpr ⟨cd126, ?_⟩
  refine List.forall_mem_cons.mpr ⟨cd127, ?_⟩
  refine List.forall_mem_cons.mpr ⟨cd128, ?_⟩
  refine List.forall_mem_cons.mpr ⟨cd129, ?_⟩
  refine List.forall_mem_cons.mpr ⟨cd130, ?_⟩
  refine List.forall_mem_cons.mpr ⟨cd131, ?_⟩
  refine List.forall_mem_cons.mpr ⟨cd132, ?_⟩
  refine List.forall_mem_cons.mpr ⟨cd133, ?_⟩
  refine List.forall_mem_cons.mpr ⟨cd134, ?_⟩
  refine List.forall_mem_cons.mpr ⟨cd135, ?_⟩
  refine List.forall_mem_cons.mpr ⟨cd136, ?_⟩
  refine List.forall_mem_cons.mpr ⟨cd137, ?_⟩
  refine List.forall_mem_cons.mpr ⟨cd138, ?_⟩
  refine List.forall_mem_cons.mpr ⟨cd139, ?_⟩
  refine List.forall_mem_cons.mpr ⟨cd140, ?_⟩
  refine List.forall_mem_cons.mpr ⟨cd141, ?_⟩
  refine List.forall_mem_cons.mpr ⟨cd142, ?_⟩
  refine List.forall_mem_cons.mpr ⟨cd143, ?_⟩
  refine List.forall_mem_cons.mpr ⟨cd144, ?_⟩
  refine List.forall_mem_cons.mpr ⟨cd145, ?_⟩
  refine List.forall_mem_cons.mpr ⟨cd146, ?_⟩
  refine List.forall_mem_cons.mpr ⟨cd147, ?_⟩
  refine List.forall_mem_cons.mpr ⟨cd148, ?_⟩
  refine List.forall_mem_cons.mpr ⟨cd149, ?_⟩
  refine List.forall_mem_cons.mpr ⟨cd150, ?_⟩
  refine List.forall_mem_cons.mpr ⟨cd151, ?_⟩
  refine List.forall_mem_cons.mpr ⟨cd152, ?_⟩
  refine List.forall_mem_cons.mpr ⟨cd153, ?_⟩
  refine List.forall_mem_cons.mpr ⟨cd154, ?_⟩
  refine List.forall_mem_cons.mpr ⟨cd155, ?_⟩
  refine List.forall_mem_cons.mpr ⟨cd156, ?_⟩
  refine List.forall_mem_cons.mpr ⟨cd157, ?_⟩
  refine List.forall_mem_cons.mpr ⟨cd158, ?_⟩
  refine List.forall_mem_cons.mpr ⟨cd159, ?_⟩
  refine List.forall_mem_cons.mpr ⟨cd160, ?_⟩
  refine List.forall_mem_cons.mpr ⟨cd161, ?_⟩
  refine List.forall_mem_cons.mpr ⟨cd162, ?_⟩
  refine List.forall_mem_cons.mpr ⟨cd163, ?_⟩
  refine List.forall_mem_cons.mpr ⟨cd164, ?_⟩
  refine List.forall_mem_cons.mpr ⟨cd165, ?_⟩
  refine List.forall_mem_cons.mpr ⟨cd166, ?_⟩
  refine List.forall_mem_cons.mpr ⟨cd167, ?_⟩
  refine List.forall_mem_cons.mpr ⟨cd168, ?_⟩
  refine List.forall_mem_cons.mpr ⟨cd169, ?_⟩
  refine List.forall_mem_cons.mpr ⟨cd170, ?_⟩
  refine List.forall_mem_cons.mpr ⟨cd171, ?_⟩
  refine List.forall_mem_cons.mpr ⟨cd172, ?_⟩
  refine List.forall_mem_cons.mpr ⟨cd173, ?_⟩
  refine List.forall_mem_cons.mpr ⟨cd174, ?_⟩
  refine List.forall_mem_cons.mpr ⟨cd175, ?_⟩
  refine List.forall_mem_cons.mpr ⟨cd176, ?_⟩
  refine List.forall_mem_cons.mpr ⟨cd177, ?_⟩
  refine List.forall_mem_cons.mpr ⟨cd178, ?_⟩
  refine List.forall_mem_cons.mpr ⟨cd179, ?_⟩
  refine List.forall_mem_cons.mpr ⟨cd180, ?_⟩
  refine List.forall_mem_cons.mpr ⟨cd181, ?_⟩
  refine List.forall_mem_cons.mpr ⟨cd182, ?_⟩
  refine List.forall_mem_cons.mpr ⟨cd183, ?_⟩
  refine List.forall_mem_cons.mpr ⟨cd184, ?_⟩
  refine List.forall_mem_cons.mpr ⟨cd185, ?_⟩
  refine List.forall_mem_cons.mpr ⟨cd186, ?_⟩
  refine List.forall_mem_cons.mpr ⟨cd187, ?_⟩
  refine List.forall_mem_cons.mpr ⟨cd188, ?_⟩
  refine List.forall_mem_cons.mpr ⟨cd189, ?_⟩
  refine List.forall_mem_cons.mpr ⟨cd190, ?_⟩
  refine List.forall_mem_cons.mpr ⟨cd191, ?_⟩
  refine List.forall_mem_cons.mpr ⟨cd192, ?_⟩
  exact fun _ h => absurd h List.not_mem_nil
def okM (q : MD) : Prop := match q with
  | (y, cc, ml, ret, n, stt, _, _, _, _) => plainName y.cls = true ∧ GoodIn gT (Cond.code y cc ml ret :: gT) ∧ (stt = true → Cond.static y ∈ gT) ∧ (stt = false → Cond.instanceMethod y ∈ gT ∧ (y.name = "<init>" ∨ Cond.selects y.cls y y ∈ gT)) ∧ Cond.initialized y.cls ∈ gT ∧
    (y.cls ≠ "java/lang/invoke/MethodHandle" ∧ y.cls ≠ "java/lang/invoke/VarHandle") ∧ (parseMethodDescriptor y.desc).map (fun d => d.parameters.length) = some n ∧ ml ≤ 40
theorem okM_at {y : Nat} {q : MD} (h : mdL[y]? = some q) : okM q := by
  have h1 := List.all_eq_true.mp okM_all q (List.mem_of_getElem? h)
  obtain ⟨y, cc, ml, ret, n, stt, pc, pi, ps, pz⟩ := q
  simp only [okMB, Bool.and_eq_true, decide_eq_true_eq] at h1
  obtain ⟨a1, a3, a4, a5, a6, a7⟩ := h1
  have a2 := cd_all _ (List.mem_of_getElem? h)
  refine ⟨a1, good_self pc a2, ?_, ?_, gT_in pz a4 rfl, a5, a6, by simpa using a7⟩
  · intro e
    subst e
    exact gT_in pi (by simpa using a3) rfl
  · intro e
    subst e
    simp only [cond_false, Bool.and_eq_true, decide_eq_true_eq, Bool.or_eq_true] at a3
    refine ⟨gT_in pi a3.1 rfl, ?_⟩
    rcases a3.2 with h | h
    · exact Or.inl h
    · exact Or.inr (gT_in ps h rfl)
