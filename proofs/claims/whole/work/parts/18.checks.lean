/-! the checks, method by method -/
def rtB : Nat → Option FieldType → Bool
  | 0, none => true
  | 1, some .int => true
  | 2, some .boolean => true
  | 3, some .long => true
  | 4, some (.object _) => true
  | 4, some (.array _) => true
  | _, _ => false
def okTbl (h : Hd) (cc : ByteArray) (oC : String) : Bool := h.1.all (fun pe => okD cc pe && okI oC pe.1 pe.2)
def okHM (x : (Hd × Nat) × MD) : Bool := okTbl x.1.1 x.2.2.1 x.2.1.cls && (x.1.2 == x.2.2.2.1 && (decide (x.1.1.2.1 = 0 ∨ x.2.1.cls = RC x.1.1.2.1) && ((!x.1.1.2.2.1 || decide (x.2.1.name = "<init>")) && rtB x.1.1.2.2.2 x.2.2.2.2.1)))
theorem ck0 : okHM ((hX0_init, 1), (yX0_init, cX0_init, 1, none, 0, false, 179, 178, 0, 75)) = true := by decide +kernel
theorem ck1 : okHM ((hX0_search, 4), (yX0_search, cX0_search, 4, none, 2, false, 626, 624, 625, 75)) = true := by decide +kernel
theorem ck2 : okHM ((hX0_clear, 2), (yX0_clear, cX0_clear, 2, none, 0, false, 630, 629, 20, 75)) = true := by decide +kernel
theorem ck3 : okHM ((hX0_isInShoe, 3), (yX0_isInShoe, cX0_isInShoe, 3, (some .boolean), 1, false, 634, 633, 21, 75)) = true := by decide +kernel
theorem ck4 : okHM ((hX0_found, 5), (yX0_found, cX0_found, 5, none, 0, false, 638, 637, 22, 75)) = true := by decide +kernel
theorem ck5 : okHM ((hX0_stepOn, 3), (yX0_stepOn, cX0_stepOn, 3, none, 1, false, 642, 641, 23, 75)) = true := by decide +kernel
theorem ck6 : okHM ((hX0_takeUp, 5), (yX0_takeUp, cX0_takeUp, 5, none, 3, false, 646, 645, 24, 75)) = true := by decide +kernel
theorem ck7 : okHM ((hX1_takes, 4), (yX1_takes, cX1_takes, 4, (some .int), 4, true, 511, 510, 0, 85)) = true := by decide +kernel
theorem ck8 : okHM ((hX1_takesUnbounded, 4), (yX1_takesUnbounded, cX1_takesUnbounded, 4, (some .int), 4, true, 514, 513, 0, 85)) = true := by decide +kernel
theorem ck9 : okHM ((hX1_keeps, 3), (yX1_keeps, cX1_keeps, 3, (some .int), 3, true, 492, 491, 0, 85)) = true := by decide +kernel
theorem ck10 : okHM ((hX1_sure, 3), (yX1_sure, cX1_sure, 3, (some .int), 3, true, 500, 499, 0, 85)) = true := by decide +kernel
theorem ck11 : okHM ((hX1_isUnder, 2), (yX1_isUnder, cX1_isUnder, 2, (some .boolean), 2, true, 768, 767, 0, 85)) = true := by decide +kernel
theorem ck12 : okHM ((hX2_init, 1), (yX2_init, cX2_init, 1, none, 0, false, 138, 137, 0, 74)) = true := by decide +kernel
theorem ck13 : okHM ((hX2_add, 2), (yX2_add, cX2_add, 2, (some .int), 1, false, 298, 296, 297, 74)) = true := by decide +kernel
theorem ck14 : okHM ((hX2_read, 2), (yX2_read, cX2_read, 2, (some .int), 0, false, 306, 304, 305, 74)) = true := by decide +kernel
theorem ck15 : okHM ((hX2_readLevel, 6), (yX2_readLevel, cX2_readLevel, 6, (some .boolean), 2, false, 350, 349, 5, 74)) = true := by decide +kernel
theorem ck16 : okHM ((hX2_readNot, 2), (yX2_readNot, cX2_readNot, 2, (some .boolean), 1, false, 362, 361, 8, 74)) = true := by decide +kernel
theorem ck17 : okHM ((hX2_readOne, 3), (yX2_readOne, cX2_readOne, 3, (some .boolean), 1, false, 354, 353, 6, 74)) = true := by decide +kernel
theorem ck18 : okHM ((hX2_levelOf, 1), (yX2_levelOf, cX2_levelOf, 1, (some .int), 1, true, 365, 364, 0, 74)) = true := by decide +kernel
theorem ck19 : okHM ((hX2_stepOf, 1), (yX2_stepOf, cX2_stepOf, 1, (some .int), 1, true, 368, 367, 0, 74)) = true := by decide +kernel
theorem ck20 : okHM ((hX2_put, 2), (yX2_put, cX2_put, 2, none, 1, false, 358, 357, 7, 74)) = true := by decide +kernel
theorem ck21 : okHM ((hX2_next, 1), (yX2_next, cX2_next, 1, none, 0, false, 310, 309, 0, 74)) = true := by decide +kernel
theorem ck22 : okHM ((hX2_nextWord, 3), (yX2_nextWord, cX2_nextWord, 3, none, 0, false, 318, 317, 2, 74)) = true := by decide +kernel
theorem ck23 : okHM ((hX2_nextNumber, 1), (yX2_nextNumber, cX2_nextNumber, 1, none, 0, false, 343, 342, 4, 74)) = true := by decide +kernel
theorem ck24 : okHM ((hX2_isIn, 4), (yX2_isIn, cX2_isIn, 4, (some .boolean), 3, false, 314, 313, 1, 74)) = true := by decide +kernel
theorem ck25 : okHM ((hX2_isSign, 1), (yX2_isSign, cX2_isSign, 1, (some .boolean), 1, true, 346, 345, 0, 74)) = true := by decide +kernel
theorem ck26 : okHM ((hX2_isToken, 3), (yX2_isToken, cX2_isToken, 3, (some .boolean), 1, false, 337, 336, 3, 74)) = true := by decide +kernel
theorem ck27 : okHM ((hX2_wordOf, 1), (yX2_wordOf, cX2_wordOf, 1, (some (.object "java/lang/String")), 1, true, 321, 320, 0, 74)) = true := by decide +kernel
theorem ck28 : okHM ((hX3_init, 1), (yX3_init, cX3_init, 1, none, 0, false, 227, 226, 0, 77)) = true := by decide +kernel
theorem ck29 : okHM ((hX3_isSort, 1), (yX3_isSort, cX3_isSort, 1, (some .boolean), 1, true, 740, 739, 0, 77)) = true := by decide +kernel
theorem ck30 : okHM ((hX3_isMissing, 1), (yX3_isMissing, cX3_isMissing, 1, (some .boolean), 0, false, 618, 616, 617, 77)) = true := by decide +kernel
theorem ck31 : okHM ((hX3_has, 2), (yX3_has, cX3_has, 2, (some .boolean), 1, false, 748, 746, 747, 77)) = true := by decide +kernel
theorem ck32 : okHM ((hX3_hasRun, 3), (yX3_hasRun, cX3_hasRun, 3, (some .boolean), 2, false, 756, 754, 755, 77)) = true := by decide +kernel
theorem ck33 : okHM ((hX3_becomes, 4), (yX3_becomes, cX3_becomes, 4, none, 2, false, 597, 595, 596, 77)) = true := by decide +kernel
theorem ck34 : okHM ((hX3_put, 3), (yX3_put, cX3_put, 3, none, 2, false, 601, 599, 600, 77)) = true := by decide +kernel
theorem ck35 : okHM ((hX3_all, 1), (yX3_all, cX3_all, 1, (some .int), 0, false, 605, 603, 604, 77)) = true := by decide +kernel
theorem ck36 : okHM ((hX4_init, 1), (yX4_init, cX4_init, 1, none, 0, false, 215, 214, 0, 76)) = true := by decide +kernel
theorem ck37 : okHM ((hX4_becomes, 3), (yX4_becomes, cX4_becomes, 3, none, 2, false, 372, 370, 371, 76)) = true := by decide +kernel
theorem ck38 : okHM ((hX4_value, 7), (yX4_value, cX4_value, 7, (some .int), 3, false, 480, 478, 479, 76)) = true := by decide +kernel
theorem ck39 : okHM ((hX4_joined, 3), (yX4_joined, cX4_joined, 3, (some .int), 3, true, 483, 482, 0, 76)) = true := by decide +kernel
theorem ck40 : okHM ((hX5_init, 1), (yX5_init, cX5_init, 1, none, 0, false, 98, 97, 0, 73)) = true := by decide +kernel
theorem ck41 : okHM ((hX5_has, 2), (yX5_has, cX5_has, 2, (some .boolean), 1, false, 431, 429, 430, 73)) = true := by decide +kernel
theorem ck42 : okHM ((hX5_comes, 4), (yX5_comes, cX5_comes, 4, (some .int), 2, false, 456, 454, 455, 73)) = true := by decide +kernel
theorem ck43 : okHM ((hX5_becomes, 2), (yX5_becomes, cX5_becomes, 2, none, 1, false, 720, 718, 719, 73)) = true := by decide +kernel
theorem ck44 : okHM ((hX5_allOnCoast, 2), (yX5_allOnCoast, cX5_allOnCoast, 2, (some .int), 1, false, 445, 443, 444, 73)) = true := by decide +kernel
theorem ck45 : okHM ((hX5_allInShoe, 2), (yX5_allInShoe, cX5_allInShoe, 2, (some .int), 1, false, 435, 433, 434, 73)) = true := by decide +kernel
theorem ck46 : okHM ((hX5_allInShoes, 1), (yX5_allInShoes, cX5_allInShoes, 1, (some .int), 0, false, 733, 731, 732, 73)) = true := by decide +kernel
theorem ck47 : okHM ((hX5_apart, 5), (yX5_apart, cX5_apart, 5, (some .int), 2, false, 542, 540, 541, 73)) = true := by decide +kernel
theorem ck48 : okHM ((hX5_oddest, 5), (yX5_oddest, cX5_oddest, 5, (some .int), 1, false, 562, 560, 561, 73)) = true := by decide +kernel
theorem ck49 : okHM ((hX5_poorest, 3), (yX5_poorest, cX5_poorest, 3, (some .int), 0, false, 557, 555, 556, 73)) = true := by decide +kernel
theorem ck50 : okHM ((hX6_init, 2), (yX6_init, cX6_init, 2, none, 0, false, 90, 89, 0, 72)) = true := by decide +kernel
theorem ck51 : okHM ((hX6_set, 5), (yX6_set, cX6_set, 5, (some .int), 3, false, 417, 415, 416, 72)) = true := by decide +kernel
theorem ck52 : okHM ((hX6_person, 3), (yX6_person, cX6_person, 3, (some .int), 2, false, 452, 450, 451, 72)) = true := by decide +kernel
theorem ck53 : okHM ((hX6_told, 3), (yX6_told, cX6_told, 3, (some .int), 2, false, 421, 419, 420, 72)) = true := by decide +kernel
theorem ck54 : okHM ((hX6_asks, 4), (yX6_asks, cX6_asks, 4, (some .int), 3, false, 461, 459, 460, 72)) = true := by decide +kernel
theorem ck55 : okHM ((hX6_feed, 2), (yX6_feed, cX6_feed, 2, (some .int), 1, false, 294, 292, 293, 72)) = true := by decide +kernel
theorem ck56 : okHM ((hX6_text, 2), (yX6_text, cX6_text, 2, (some .int), 0, false, 302, 300, 301, 72)) = true := by decide +kernel
theorem ck57 : okHM ((hX6_force, 3), (yX6_force, cX6_force, 3, (some .int), 1, false, 521, 519, 520, 72)) = true := by decide +kernel
theorem ck58 : okHM ((hX6_stay, 5), (yX6_stay, cX6_stay, 5, (some .int), 2, false, 525, 523, 524, 72)) = true := by decide +kernel
theorem ck59 : okHM ((hX6_shake, 4), (yX6_shake, cX6_shake, 4, (some .int), 1, false, 529, 527, 528, 72)) = true := by decide +kernel
theorem ck60 : okHM ((hX6_like, 4), (yX6_like, cX6_like, 4, (some .int), 3, false, 534, 532, 533, 72)) = true := by decide +kernel
theorem ck61 : okHM ((hX6_odd, 4), (yX6_odd, cX6_odd, 4, (some .int), 2, false, 553, 551, 552, 72)) = true := by decide +kernel
theorem ck62 : okHM ((hX6_mean, 4), (yX6_mean, cX6_mean, 4, (some .long), 3, false, 567, 565, 566, 72)) = true := by decide +kernel
theorem ck63 : okHM ((hX6_stays, 4), (yX6_stays, cX6_stays, 4, (some .int), 3, false, 578, 576, 577, 72)) = true := by decide +kernel
theorem ck64 : okHM ((hX6_pack, 6), (yX6_pack, cX6_pack, 6, (some .int), 3, false, 590, 588, 589, 72)) = true := by decide +kernel
theorem ck65 : okHM ((hX6_fit, 5), (yX6_fit, cX6_fit, 5, (some .int), 3, false, 610, 608, 609, 72)) = true := by decide +kernel
theorem ck66 : okHM ((hX6_share, 5), (yX6_share, cX6_share, 5, (some .long), 4, false, 650, 648, 649, 72)) = true := by decide +kernel
theorem ck67 : okHM ((hX6_go, 10), (yX6_go, cX6_go, 10, (some .int), 4, false, 654, 652, 653, 72)) = true := by decide +kernel
theorem ck68 : okHM ((hX6_tells, 6), (yX6_tells, cX6_tells, 6, (some .int), 4, false, 673, 671, 672, 72)) = true := by decide +kernel
theorem ck69 : okHM ((hX6_film, 6), (yX6_film, cX6_film, 6, (some .int), 3, false, 693, 691, 692, 72)) = true := by decide +kernel
theorem ck70 : okHM ((hX6_drawn, 4), (yX6_drawn, cX6_drawn, 4, (some .int), 3, false, 697, 695, 696, 72)) = true := by decide +kernel
theorem ck71 : okHM ((hX6_chance, 8), (yX6_chance, cX6_chance, 8, (some .long), 5, false, 711, 709, 710, 72)) = true := by decide +kernel
theorem ck72 : okHM ((hX6_image, 1), (yX6_image, cX6_image, 1, (some .int), 0, false, 716, 714, 715, 72)) = true := by decide +kernel
theorem ck73 : okHM ((hX6_back, 1), (yX6_back, cX6_back, 1, (some .int), 0, false, 725, 723, 724, 72)) = true := by decide +kernel
theorem ck74 : okHM ((hX6_count, 2), (yX6_count, cX6_count, 2, (some .int), 1, false, 729, 727, 728, 72)) = true := by decide +kernel
theorem ck75 : okHM ((hX6_sheet, 4), (yX6_sheet, cX6_sheet, 4, (some .int), 3, false, 737, 735, 736, 72)) = true := by decide +kernel
theorem ck76 : okHM ((hX6_cell, 5), (yX6_cell, cX6_cell, 5, (some .int), 3, false, 744, 742, 743, 72)) = true := by decide +kernel
theorem ck77 : okHM ((hX6_copy, 8), (yX6_copy, cX6_copy, 8, (some .int), 5, false, 752, 750, 751, 72)) = true := by decide +kernel
theorem ck78 : okHM ((hX6_people, 9), (yX6_people, cX6_people, 9, (some .int), 4, false, 760, 758, 759, 72)) = true := by decide +kernel
theorem ck79 : okHM ((hX6_taken, 3), (yX6_taken, cX6_taken, 3, (some .int), 2, false, 765, 763, 764, 72)) = true := by decide +kernel
theorem ck80 : okHM ((hX6_isCoast, 1), (yX6_isCoast, cX6_isCoast, 1, (some .boolean), 1, true, 441, 440, 0, 72)) = true := by decide +kernel
theorem ck81 : okHM ((hX6_isMark, 1), (yX6_isMark, cX6_isMark, 1, (some .boolean), 1, true, 464, 463, 0, 72)) = true := by decide +kernel
theorem ck82 : okHM ((hX6_isPart, 1), (yX6_isPart, cX6_isPart, 1, (some .boolean), 1, true, 570, 569, 0, 72)) = true := by decide +kernel
theorem ck83 : okHM ((hX6_isSheet, 1), (yX6_isSheet, cX6_isSheet, 1, (some .boolean), 1, true, 593, 592, 0, 72)) = true := by decide +kernel
theorem ck84 : okHM ((hX6_areTwo, 3), (yX6_areTwo, cX6_areTwo, 3, (some .boolean), 2, false, 538, 537, 15, 72)) = true := by decide +kernel
theorem ck85 : okHM ((hX6_isPlace, 2), (yX6_isPlace, cX6_isPlace, 2, (some .boolean), 2, true, 424, 423, 0, 72)) = true := by decide +kernel
theorem ck86 : okHM ((hX6_placeOf, 1), (yX6_placeOf, cX6_placeOf, 1, (some .int), 1, true, 427, 426, 0, 72)) = true := by decide +kernel
theorem ck87 : okHM ((hX6_mostOf, 1), (yX6_mostOf, cX6_mostOf, 1, (some .int), 1, true, 448, 447, 0, 72)) = true := by decide +kernel
theorem ck88 : okHM ((hX6_areStays, 3), (yX6_areStays, cX6_areStays, 3, (some .boolean), 1, true, 581, 580, 0, 72)) = true := by decide +kernel
theorem ck89 : okHM ((hX6_valueOf, 5), (yX6_valueOf, cX6_valueOf, 5, (some .int), 3, false, 476, 475, 11, 72)) = true := by decide +kernel
theorem ck90 : okHM ((hX6_nameAll, 7), (yX6_nameAll, cX6_nameAll, 7, none, 6, false, 472, 471, 10, 72)) = true := by decide +kernel
theorem ck91 : okHM ((hX6_takesOf, 7), (yX6_takesOf, cX6_takesOf, 7, (some .int), 6, false, 508, 507, 14, 72)) = true := by decide +kernel
theorem ck92 : okHM ((hX6_takesNow, 4), (yX6_takesNow, cX6_takesNow, 4, (some .int), 3, false, 504, 503, 13, 72)) = true := by decide +kernel
theorem ck93 : okHM ((hX6_keepsOf, 4), (yX6_keepsOf, cX6_keepsOf, 4, (some .int), 2, false, 468, 467, 9, 72)) = true := by decide +kernel
theorem ck94 : okHM ((hX6_sureOf, 5), (yX6_sureOf, cX6_sureOf, 5, (some .int), 3, false, 497, 496, 12, 72)) = true := by decide +kernel
theorem ck95 : okHM ((hX6_tellsExaminer, 5), (yX6_tellsExaminer, cX6_tellsExaminer, 5, (some .int), 2, false, 549, 548, 16, 72)) = true := by decide +kernel
theorem ck96 : okHM ((hX6_tellDailyTakes, 6), (yX6_tellDailyTakes, cX6_tellDailyTakes, 6, none, 1, false, 622, 621, 19, 72)) = true := by decide +kernel
theorem ck97 : okHM ((hX6_takesByStays, 7), (yX6_takesByStays, cX6_takesByStays, 7, (some .int), 3, false, 586, 585, 17, 72)) = true := by decide +kernel
theorem ck98 : okHM ((hX6_findFits, 3), (yX6_findFits, cX6_findFits, 3, (some .int), 2, false, 614, 613, 18, 72)) = true := by decide +kernel
theorem ck99 : okHM ((hX6_neverGoesBack, 6), (yX6_neverGoesBack, cX6_neverGoesBack, 6, (some .boolean), 2, true, 657, 656, 0, 72)) = true := by decide +kernel
