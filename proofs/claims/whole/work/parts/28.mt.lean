/-! The table of the methods; every code table is right. By program. -/
def mt_0 : MTE := (⟨RX0, "<init>", "()V"⟩, prog_2_method_1_code, 1, none)
def mt_1 : MTE := (⟨RX0, "judge", "(LThirstHours$Post;LThirstHours$Days;I)I"⟩, prog_2_method_2_code, 7, (some .int))
def mt_2 : MTE := (⟨RX0, "shownBehind", "(LThirstHours$Post;LThirstHours$State;II)I"⟩, prog_2_method_3_code, 6, (some .int))
def mt_3 : MTE := (⟨RX0, "firstStill", "(LThirstHours$Post;LThirstHours$State;I)I"⟩, prog_2_method_4_code, 5, (some .int))
def mt_4 : MTE := (⟨RX0, "lateWorks", "(LThirstHours$Post;LThirstHours$State;IZ)I"⟩, prog_2_method_5_code, 8, (some .int))
def mt_5 : MTE := (⟨RX0, "lowestBit", "(I)I"⟩, prog_2_method_6_code, 2, (some .int))
def mt_6 : MTE := (⟨RX0, "waysOfTwo", "(III)J"⟩, prog_2_method_7_code, 6, (some .long))
def mt_7 : MTE := (⟨RX0, "sealedSips", "(LThirstHours$Post;IIII)I"⟩, prog_2_method_8_code, 11, (some .int))
def mt_8 : MTE := (⟨RX0, "thefts", "(LThirstHours$Post;IIII)I"⟩, prog_2_method_9_code, 11, (some .int))
def mt_9 : MTE := (⟨RX0, "theftsNow", "(LThirstHours$Post;III)I"⟩, prog_2_method_10_code, 10, (some .int))
def mt_10 : MTE := (⟨RX0, "goRobbed", "(LThirstHours$Post;III)I"⟩, prog_2_method_11_code, 9, (some .int))
def mt_11 : MTE := (⟨RX0, "drawBelow", "(I)I"⟩, prog_2_method_12_code, 2, (some .int))
def mt_12 : MTE := (⟨RX0, "drawnYears", "(LThirstHours$Post;LThirstHours$State;III)I"⟩, prog_2_method_13_code, 9, (some .int))
def mt_13 : MTE := (⟨RX0, "rain", "(LThirstHours$Post;)V"⟩, prog_2_method_14_code, 3, none)
def mt_14 : MTE := (⟨RX0, "stillOnes", "(LThirstHours$Post;)I"⟩, prog_2_method_15_code, 4, (some .int))
def mt_15 : MTE := (⟨RX1, "<init>", "(LThirstHours$Ahead;)V"⟩, prog_3_method_1_code, 2, none)
def mt_16 : MTE := (⟨RX1, "besieged", "(LThirstHours$Post;II)I"⟩, prog_3_method_2_code, 9, (some .int))
def mt_17 : MTE := (⟨RX1, "sumThirsts", "(LThirstHours$Post;)V"⟩, prog_3_method_3_code, 5, none)
def mt_18 : MTE := (⟨RX1, "siegeCost", "(LThirstHours$Post;II)I"⟩, prog_3_method_4_code, 7, (some .int))
def mt_19 : MTE := (⟨RX1, "bestRound", "(LThirstHours$Post;LThirstHours$State;II)I"⟩, prog_3_method_5_code, 6, (some .int))
def mt_20 : MTE := (⟨RX1, "setDeadline", "(II)V"⟩, prog_3_method_6_code, 3, none)
def mt_21 : MTE := (⟨RX1, "goOn", "(LThirstHours$Post;IIII)V"⟩, prog_3_method_7_code, 9, none)
def mt_22 : MTE := (⟨RX1, "lawsOf", "(LThirstHours$Heard;I)I"⟩, prog_3_method_8_code, 6, (some .int))
def mt_23 : MTE := (⟨RX1, "tellingHeat", "(LThirstHours$Heard;I)I"⟩, prog_3_method_9_code, 7, (some .int))
def mt_24 : MTE := (⟨RX1, "mostAlike", "(LThirstHours$Heard;I)I"⟩, prog_3_method_10_code, 6, (some .int))
def mt_25 : MTE := (⟨RX1, "fewestCups", "(LThirstHours$Post;LThirstHours$State;III)I"⟩, prog_3_method_11_code, 7, (some .int))
def mt_26 : MTE := (⟨RX1, "fillCups", "(IIIII)V"⟩, prog_3_method_12_code, 8, none)
def mt_27 : MTE := (⟨RX1, "restingPrices", "(LThirstHours$Post;LThirstHours$State;III)I"⟩, prog_3_method_13_code, 8, (some .int))
def mt_28 : MTE := (⟨RX1, "sell", "(LThirstHours$Post;LThirstHours$State;III)V"⟩, prog_3_method_14_code, 13, none)
def mt_29 : MTE := (⟨RX1, "isAtRest", "(I)Z"⟩, prog_3_method_15_code, 5, (some .boolean))
def mt_30 : MTE := (⟨RX2, "<init>", "()V"⟩, prog_4_method_1_code, 1, none)
def mt_31 : MTE := (⟨RX2, "copyFrom", "(LThirstHours$Days;)V"⟩, prog_4_method_2_code, 2, none)
def mt_32 : MTE := (⟨RX2, "add", "(IIII)V"⟩, prog_4_method_3_code, 5, none)
def mt_33 : MTE := (⟨RX2, "follow", "(LThirstHours$Post;LThirstHours$State;I)Z"⟩, prog_4_method_4_code, 4, (some .boolean))
def mt_34 : MTE := (⟨RX3, "<init>", "()V"⟩, prog_5_method_1_code, 1, none)
def mt_35 : MTE := (⟨RX3, "copyFrom", "(LThirstHours$Heard;)V"⟩, prog_5_method_2_code, 2, none)
def mt_36 : MTE := (⟨RX3, "addSaid", "(II)Z"⟩, prog_5_method_3_code, 3, (some .boolean))
def mt_37 : MTE := (⟨RX3, "addTold", "(II)Z"⟩, prog_5_method_4_code, 3, (some .boolean))
def mt_38 : MTE := (⟨RX3, "trueHours", "(I)I"⟩, prog_5_method_5_code, 8, (some .int))
def mt_39 : MTE := (⟨RX3, "soAt", "(I)I"⟩, prog_5_method_6_code, 4, (some .int))
def mt_40 : MTE := (⟨RX3, "fits", "(II)Z"⟩, prog_5_method_7_code, 4, (some .boolean))
def mt_41 : MTE := (⟨RX4, "<init>", "()V"⟩, prog_6_method_1_code, 1, none)
def mt_42 : MTE := (⟨RX4, "beUsual", "()V"⟩, prog_6_method_2_code, 1, none)
def mt_43 : MTE := (⟨RX4, "beNothing", "()V"⟩, prog_6_method_3_code, 1, none)
def mt_44 : MTE := (⟨RX4, "add", "(I)V"⟩, prog_6_method_4_code, 2, none)
def mt_45 : MTE := (⟨RX4, "worth", "(IIII)I"⟩, prog_6_method_5_code, 11, (some .int))
def mt_46 : MTE := (⟨RX5, "<init>", "()V"⟩, prog_7_method_1_code, 1, none)
def mt_47 : MTE := (⟨RX5, "clear", "()V"⟩, prog_7_method_2_code, 2, none)
def mt_48 : MTE := (⟨RX5, "isPlace", "(I)Z"⟩, prog_7_method_3_code, 2, (some .boolean))
def mt_49 : MTE := (⟨RX5, "isClock", "(I)Z"⟩, prog_7_method_4_code, 2, (some .boolean))
def mt_50 : MTE := (⟨RX5, "isPerson", "(I)Z"⟩, prog_7_method_5_code, 2, (some .boolean))
def mt_51 : MTE := (⟨RX5, "addWay", "(III)V"⟩, prog_7_method_6_code, 4, none)
def mt_52 : MTE := (⟨RX5, "step", "(II)I"⟩, prog_7_method_7_code, 3, (some .int))
def mt_53 : MTE := (⟨RX5, "shortest", "(II)I"⟩, prog_7_method_8_code, 3, (some .int))
def mt_54 : MTE := (⟨RX5, "findShortest", "()V"⟩, prog_7_method_9_code, 4, none)
def mt_55 : MTE := (⟨RX5, "shortenOver", "(II)V"⟩, prog_7_method_10_code, 7, none)
def mt_56 : MTE := (⟨RX5, "thirst", "(III)I"⟩, prog_7_method_11_code, 6, (some .int))
def mt_57 : MTE := (⟨RX5, "shownNext", "(III)I"⟩, prog_7_method_12_code, 4, (some .int))
def mt_58 : MTE := (⟨RX5, "need", "(IIII)I"⟩, prog_7_method_13_code, 8, (some .int))
def mt_59 : MTE := (⟨RX5, "passHours", "(LThirstHours$State;I)V"⟩, prog_7_method_14_code, 4, none)
def mt_60 : MTE := (⟨RX5, "passHour", "(LThirstHours$State;)V"⟩, prog_7_method_15_code, 3, none)
def mt_61 : MTE := (⟨RX5, "passClock", "(LThirstHours$State;I)V"⟩, prog_7_method_16_code, 3, none)
def mt_62 : MTE := (⟨RX5, "gatherDew", "(LThirstHours$State;I)V"⟩, prog_7_method_17_code, 4, none)
def mt_63 : MTE := (⟨RX5, "drinkOrStand", "(LThirstHours$State;II)V"⟩, prog_7_method_18_code, 4, none)
def mt_64 : MTE := (⟨RX5, "drinkAll", "(LThirstHours$State;)I"⟩, prog_7_method_19_code, 4, (some .int))
def mt_65 : MTE := (⟨RX5, "settleWorks", "(LThirstHours$State;I)V"⟩, prog_7_method_20_code, 5, none)
def mt_66 : MTE := (⟨RX5, "drawWater", "(LThirstHours$State;II)Z"⟩, prog_7_method_21_code, 5, (some .boolean))
def mt_67 : MTE := (⟨RX5, "pourWater", "(LThirstHours$State;III)Z"⟩, prog_7_method_22_code, 5, (some .boolean))
def mt_68 : MTE := (⟨RX5, "walk", "(LThirstHours$State;II)Z"⟩, prog_7_method_23_code, 6, (some .boolean))
def mt_69 : MTE := (⟨RX5, "robClock", "(LThirstHours$State;II)Z"⟩, prog_7_method_24_code, 4, (some .boolean))
def mt_70 : MTE := (⟨RX5, "worksInTime", "(LThirstHours$State;)I"⟩, prog_7_method_25_code, 4, (some .int))
def mt_71 : MTE := (⟨RX5, "paid", "(LThirstHours$State;)I"⟩, prog_7_method_26_code, 4, (some .int))
def mt_72 : MTE := (⟨RX5, "badWorks", "(LThirstHours$State;)I"⟩, prog_7_method_27_code, 4, (some .int))
def mt_73 : MTE := (⟨RX5, "dryHours", "(LThirstHours$State;)I"⟩, prog_7_method_28_code, 4, (some .int))
def mt_74 : MTE := (⟨RX5, "sipsInAll", "(LThirstHours$State;)I"⟩, prog_7_method_29_code, 4, (some .int))
def mt_75 : MTE := (⟨RX6, "<init>", "(LThirstHours$Tape;)V"⟩, prog_8_method_1_code, 2, none)
def mt_76 : MTE := (⟨RX6, "readPost", "(LThirstHours$Post;)I"⟩, prog_8_method_2_code, 3, (some .int))
def mt_77 : MTE := (⟨RX6, "readDays", "(LThirstHours$Post;LThirstHours$Days;)I"⟩, prog_8_method_3_code, 4, (some .int))
def mt_78 : MTE := (⟨RX6, "wrong", "(I)Z"⟩, prog_8_method_4_code, 2, (some .boolean))
def mt_79 : MTE := (⟨RX6, "word", "(LThirstHours$Word;)Z"⟩, prog_8_method_5_code, 2, (some .boolean))
def mt_80 : MTE := (⟨RX6, "sign", "(C)Z"⟩, prog_8_method_6_code, 2, (some .boolean))
def mt_81 : MTE := (⟨RX6, "number", "(II)Z"⟩, prog_8_method_7_code, 3, (some .boolean))
def mt_82 : MTE := (⟨RX6, "newName", "(I)Z"⟩, prog_8_method_8_code, 2, (some .boolean))
def mt_83 : MTE := (⟨RX6, "toldName", "(II)Z"⟩, prog_8_method_9_code, 3, (some .boolean))
def mt_84 : MTE := (⟨RX6, "indexOfName", "(II)I"⟩, prog_8_method_10_code, 4, (some .int))
def mt_85 : MTE := (⟨RX6, "kindOfClock", "()Z"⟩, prog_8_method_11_code, 2, (some .boolean))
def mt_86 : MTE := (⟨RX6, "postLine", "()Z"⟩, prog_8_method_12_code, 2, (some .boolean))
def mt_87 : MTE := (⟨RX6, "placeLine", "()Z"⟩, prog_8_method_13_code, 2, (some .boolean))
def mt_88 : MTE := (⟨RX6, "wayLine", "()Z"⟩, prog_8_method_14_code, 3, (some .boolean))
def mt_89 : MTE := (⟨RX6, "otherEnd", "(I)Z"⟩, prog_8_method_15_code, 3, (some .boolean))
def mt_90 : MTE := (⟨RX6, "clockLine", "()Z"⟩, prog_8_method_16_code, 2, (some .boolean))
def mt_91 : MTE := (⟨RX6, "personLine", "()Z"⟩, prog_8_method_17_code, 2, (some .boolean))
def mt_92 : MTE := (⟨RX6, "workLine", "()Z"⟩, prog_8_method_18_code, 2, (some .boolean))
def mt_93 : MTE := (⟨RX6, "heatLine", "()Z"⟩, prog_8_method_19_code, 4, (some .boolean))
def mt_94 : MTE := (⟨RX6, "thirstLine", "()Z"⟩, prog_8_method_20_code, 1, (some .boolean))
def mt_95 : MTE := (⟨RX6, "expression", "(I)Z"⟩, prog_8_method_21_code, 4, (some .boolean))
def mt_96 : MTE := (⟨RX6, "test", "(I)Z"⟩, prog_8_method_22_code, 3, (some .boolean))
def mt_97 : MTE := (⟨RX6, "sum", "(I)Z"⟩, prog_8_method_23_code, 4, (some .boolean))
def mt_98 : MTE := (⟨RX6, "product", "(I)Z"⟩, prog_8_method_24_code, 3, (some .boolean))
def mt_99 : MTE := (⟨RX6, "part", "(I)Z"⟩, prog_8_method_25_code, 4, (some .boolean))
def mt_100 : MTE := (⟨RX6, "factCode", "()I"⟩, prog_8_method_26_code, 1, (some .int))
def mt_101 : MTE := (⟨RX6, "daysLine", "()Z"⟩, prog_8_method_27_code, 4, (some .boolean))
def mt_102 : MTE := (⟨RX6, "hourLine", "()Z"⟩, prog_8_method_28_code, 1, (some .boolean))
def mt_103 : MTE := (⟨RX6, "clockDeed", "(II)Z"⟩, prog_8_method_29_code, 4, (some .boolean))
def mt_104 : MTE := (⟨RX6, "drawLine", "(I)Z"⟩, prog_8_method_30_code, 2, (some .boolean))
def mt_105 : MTE := (⟨RX6, "goLine", "(I)Z"⟩, prog_8_method_31_code, 2, (some .boolean))
def mt_106 : MTE := (⟨RX7, "<init>", "()V"⟩, prog_9_method_1_code, 1, none)
def mt_107 : MTE := (⟨RX7, "copyFrom", "(LThirstHours$State;)V"⟩, prog_9_method_2_code, 2, none)
def mt_108 : MTE := (⟨RX7, "copyClock", "(LThirstHours$State;I)V"⟩, prog_9_method_3_code, 3, none)
def mt_109 : MTE := (⟨RX8, "<init>", "()V"⟩, prog_10_method_1_code, 1, none)
def mt_110 : MTE := (⟨RX8, "copyFrom", "(LThirstHours$Store;)V"⟩, prog_10_method_2_code, 2, none)
def mt_111 : MTE := (⟨RX9, "<init>", "()V"⟩, prog_11_method_1_code, 1, none)
def mt_112 : MTE := (⟨RX9, "spell", "(JC)J"⟩, prog_11_method_2_code, 3, (some .long))
def mt_113 : MTE := (⟨RX9, "put", "(I)V"⟩, prog_11_method_3_code, 3, none)
def mt_114 : MTE := (⟨RX9, "begin", "()V"⟩, prog_11_method_4_code, 1, none)
def mt_115 : MTE := (⟨RX9, "advance", "()V"⟩, prog_11_method_5_code, 1, none)
def mt_116 : MTE := (⟨RX9, "skipBlanks", "()V"⟩, prog_11_method_6_code, 2, none)
def mt_117 : MTE := (⟨RX9, "takeWord", "()V"⟩, prog_11_method_7_code, 2, none)
def mt_118 : MTE := (⟨RX9, "takeNumber", "()V"⟩, prog_11_method_8_code, 2, none)
def mt_119 : MTE := (⟨RX9, "takeSign", "()V"⟩, prog_11_method_9_code, 1, none)
def mt_120 : MTE := (⟨RX9, "isName", "()Z"⟩, prog_11_method_10_code, 1, (some .boolean))
def mt_121 : MTE := (⟨RX9, "isLetter", "(C)Z"⟩, prog_11_method_11_code, 1, (some .boolean))
def mt_122 : MTE := (⟨RX9, "isDigit", "(C)Z"⟩, prog_11_method_12_code, 1, (some .boolean))
def mt_123 : MTE := (⟨RX10, "of", "(J)LThirstHours$Word;"⟩, prog_12_method_4_code, 3, (some (.object "ThirstHours$Word")))
def mt_124 : MTE := (⟨RX11, "<init>", "()V"⟩, prog_1_method_1_code, 2, none)
def mt_125 : MTE := (⟨RX11, "feed", "(JJJ)I"⟩, prog_1_method_2_code, 7, (some .int))
def mt_126 : MTE := (⟨RX11, "feedEight", "(J)V"⟩, prog_1_method_3_code, 4, none)
def mt_127 : MTE := (⟨RX11, "post", "()I"⟩, prog_1_method_4_code, 3, (some .int))
def mt_128 : MTE := (⟨RX11, "beginAnew", "()V"⟩, prog_1_method_5_code, 2, none)
def mt_129 : MTE := (⟨RX11, "days", "()I"⟩, prog_1_method_6_code, 2, (some .int))
def mt_130 : MTE := (⟨RX11, "timer", "(II)I"⟩, prog_1_method_7_code, 4, (some .int))
def mt_131 : MTE := (⟨RX11, "person", "(II)I"⟩, prog_1_method_8_code, 4, (some .int))
def mt_132 : MTE := (⟨RX11, "work", "(II)I"⟩, prog_1_method_9_code, 3, (some .int))
def mt_133 : MTE := (⟨RX11, "well", "(I)I"⟩, prog_1_method_10_code, 2, (some .int))
def mt_134 : MTE := (⟨RX11, "way", "(II)I"⟩, prog_1_method_11_code, 3, (some .int))
def mt_135 : MTE := (⟨RX11, "hours", "(I)I"⟩, prog_1_method_12_code, 2, (some .int))
def mt_136 : MTE := (⟨RX11, "draw", "(II)I"⟩, prog_1_method_13_code, 3, (some .int))
def mt_137 : MTE := (⟨RX11, "pour", "(III)I"⟩, prog_1_method_14_code, 4, (some .int))
def mt_138 : MTE := (⟨RX11, "go", "(II)I"⟩, prog_1_method_15_code, 3, (some .int))
def mt_139 : MTE := (⟨RX11, "steal", "(II)I"⟩, prog_1_method_16_code, 3, (some .int))
def mt_140 : MTE := (⟨RX11, "keepBefore", "()V"⟩, prog_1_method_17_code, 1, none)
def mt_141 : MTE := (⟨RX11, "undo", "()Z"⟩, prog_1_method_18_code, 1, (some .boolean))
def mt_142 : MTE := (⟨RX11, "judged", "(I)I"⟩, prog_1_method_19_code, 2, (some .int))
def mt_143 : MTE := (⟨RX11, "shows", "(II)I"⟩, prog_1_method_20_code, 3, (some .int))
def mt_144 : MTE := (⟨RX11, "stops", "(I)I"⟩, prog_1_method_21_code, 2, (some .int))
def mt_145 : MTE := (⟨RX11, "late", "(II)I"⟩, prog_1_method_22_code, 3, (some .int))
def mt_146 : MTE := (⟨RX11, "siege", "(II)I"⟩, prog_1_method_23_code, 3, (some .int))
def mt_147 : MTE := (⟨RX11, "say", "(III)Z"⟩, prog_1_method_24_code, 4, (some .boolean))
def mt_148 : MTE := (⟨RX11, "truth", "(I)I"⟩, prog_1_method_25_code, 2, (some .int))
def mt_149 : MTE := (⟨RX11, "round", "(II)I"⟩, prog_1_method_26_code, 3, (some .int))
def mt_150 : MTE := (⟨RX11, "caravan", "(IIII)I"⟩, prog_1_method_27_code, 5, (some .int))
def mt_151 : MTE := (⟨RX11, "tell", "(II)Z"⟩, prog_1_method_28_code, 3, (some .boolean))
def mt_152 : MTE := (⟨RX11, "laws", "(I)I"⟩, prog_1_method_29_code, 2, (some .int))
def mt_153 : MTE := (⟨RX11, "theft", "(IIII)I"⟩, prog_1_method_30_code, 5, (some .int))
def mt_154 : MTE := (⟨RX11, "cups", "(III)I"⟩, prog_1_method_31_code, 4, (some .int))
def mt_155 : MTE := (⟨RX11, "rests", "(III)I"⟩, prog_1_method_32_code, 1000, (some .int))
def mt_156 : MTE := (⟨RX11, "years", "(III)I"⟩, prog_1_method_33_code, 4, (some .int))
def mt_157 : MTE := (⟨RX11, "mark", "(IZ)Z"⟩, prog_1_method_34_code, 3, (some .boolean))
def mt_158 : MTE := (⟨RX11, "count", "(I)I"⟩, prog_1_method_35_code, 2, (some .int))
def mt_159 : MTE := (⟨RX12, "<init>", "()V"⟩, prog_14_method_1_code, 1, none)
def mt_160 : MTE := (⟨RX12, "thrown", "()I"⟩, prog_14_method_2_code, 1, (some .int))
def mt_161 : MTE := (⟨RX12, "within", "(III)Z"⟩, prog_14_method_3_code, 3, (some .boolean))
def mt_162 : MTE := (⟨RX12, "between", "(III)I"⟩, prog_14_method_4_code, 3, (some .int))
def mt_163 : MTE := (⟨RX12, "away", "(II)I"⟩, prog_14_method_5_code, 2, (some .int))
def mt_164 : MTE := (⟨RX12, "feed", "(JJJ)I"⟩, prog_14_method_6_code, 11, (some .int))
def mt_165 : MTE := (⟨RX12, "signAt", "(I)I"⟩, prog_14_method_7_code, 2, (some .int))
def mt_166 : MTE := (⟨RX12, "nextToken", "()V"⟩, prog_14_method_8_code, 2, none)
def mt_167 : MTE := (⟨RX12, "isWord", "(J)Z"⟩, prog_14_method_9_code, 3, (some .boolean))
def mt_168 : MTE := (⟨RX12, "isSign", "(I)Z"⟩, prog_14_method_10_code, 2, (some .boolean))
def mt_169 : MTE := (⟨RX12, "fails", "(I)Z"⟩, prog_14_method_11_code, 2, (some .boolean))
def mt_170 : MTE := (⟨RX12, "puts", "(I)V"⟩, prog_14_method_12_code, 2, none)
def mt_171 : MTE := (⟨RX12, "fact", "()I"⟩, prog_14_method_13_code, 1, (some .int))
def mt_172 : MTE := (⟨RX12, "reads", "()Z"⟩, prog_14_method_14_code, 6, (some .boolean))
def mt_173 : MTE := (⟨RX12, "opens", "(I)V"⟩, prog_14_method_15_code, 2, none)
def mt_174 : MTE := (⟨RX12, "sums", "(I)V"⟩, prog_14_method_16_code, 2, none)
def mt_175 : MTE := (⟨RX12, "tests", "(I)V"⟩, prog_14_method_17_code, 3, none)
def mt_176 : MTE := (⟨RX12, "worked", "(I)I"⟩, prog_14_method_18_code, 6, (some .int))
def mt_177 : MTE := (⟨RX12, "isKept", "()Z"⟩, prog_14_method_19_code, 1, (some .boolean))
def mt_178 : MTE := (⟨RX12, "named", "([JIIJ)I"⟩, prog_14_method_20_code, 6, (some .int))
def mt_179 : MTE := (⟨RX12, "placeNamed", "(I)I"⟩, prog_14_method_21_code, 2, (some .int))
def mt_180 : MTE := (⟨RX12, "timerNamed", "(I)I"⟩, prog_14_method_22_code, 2, (some .int))
def mt_181 : MTE := (⟨RX12, "personNamed", "(I)I"⟩, prog_14_method_23_code, 2, (some .int))
def mt_182 : MTE := (⟨RX12, "needsNumber", "(II)Z"⟩, prog_14_method_24_code, 3, (some .boolean))
def mt_183 : MTE := (⟨RX12, "needsWord", "(J)Z"⟩, prog_14_method_25_code, 3, (some .boolean))
def mt_184 : MTE := (⟨RX12, "needsBoth", "(JII)Z"⟩, prog_14_method_26_code, 5, (some .boolean))
def mt_185 : MTE := (⟨RX12, "closes", "()Z"⟩, prog_14_method_27_code, 1, (some .boolean))
def mt_186 : MTE := (⟨RX12, "isNew", "()Z"⟩, prog_14_method_28_code, 1, (some .boolean))
def mt_187 : MTE := (⟨RX12, "needsTold", "(II)Z"⟩, prog_14_method_29_code, 3, (some .boolean))
def mt_188 : MTE := (⟨RX12, "takesTold", "(JI)Z"⟩, prog_14_method_30_code, 4, (some .boolean))
def mt_189 : MTE := (⟨RX12, "readsPlace", "()Z"⟩, prog_14_method_31_code, 4, (some .boolean))
def mt_190 : MTE := (⟨RX12, "readsWay", "()Z"⟩, prog_14_method_32_code, 3, (some .boolean))
def mt_191 : MTE := (⟨RX12, "readsTimer", "()Z"⟩, prog_14_method_33_code, 4, (some .boolean))
def mt_192 : MTE := (⟨RX12, "readsPerson", "()Z"⟩, prog_14_method_34_code, 4, (some .boolean))
def mt_193 : MTE := (⟨RX12, "readsWork", "()Z"⟩, prog_14_method_35_code, 4, (some .boolean))
def mt_194 : MTE := (⟨RX12, "readsHeat", "()Z"⟩, prog_14_method_36_code, 4, (some .boolean))
def mt_195 : MTE := (⟨RX12, "readsThirst", "()Z"⟩, prog_14_method_37_code, 1, (some .boolean))
def mt_196 : MTE := (⟨RX12, "starts", "()V"⟩, prog_14_method_38_code, 1, none)
def mt_197 : MTE := (⟨RX12, "readsAll", "()Z"⟩, prog_14_method_39_code, 2, (some .boolean))
def mt_198 : MTE := (⟨RX12, "moves", "([II)V"⟩, prog_14_method_40_code, 3, none)
def mt_199 : MTE := (⟨RX12, "movesNames", "([JI)V"⟩, prog_14_method_41_code, 3, none)
def mt_200 : MTE := (⟨RX12, "lays", "()V"⟩, prog_14_method_42_code, 3, none)
def mt_201 : MTE := (⟨RX12, "copies", "([II[II)V"⟩, prog_14_method_43_code, 5, none)
def mt_202 : MTE := (⟨RX12, "needsNext", "(II)Z"⟩, prog_14_method_44_code, 3, (some .boolean))
def mt_203 : MTE := (⟨RX12, "readsLine", "()Z"⟩, prog_14_method_45_code, 3, (some .boolean))
def mt_204 : MTE := (⟨RX12, "laysLines", "(II)V"⟩, prog_14_method_46_code, 4, none)
def mt_205 : MTE := (⟨RX12, "laysTold", "(II)V"⟩, prog_14_method_47_code, 4, none)
def mt_206 : MTE := (⟨RX12, "fresh", "()V"⟩, prog_14_method_48_code, 2, none)
def mt_207 : MTE := (⟨RX12, "post", "()I"⟩, prog_14_method_49_code, 2, (some .int))
def mt_208 : MTE := (⟨RX12, "days", "()I"⟩, prog_14_method_50_code, 1, (some .int))
def mt_209 : MTE := (⟨RX12, "isPlace", "(I)Z"⟩, prog_14_method_51_code, 2, (some .boolean))
def mt_210 : MTE := (⟨RX12, "isTimer", "(I)Z"⟩, prog_14_method_52_code, 2, (some .boolean))
def mt_211 : MTE := (⟨RX12, "isPerson", "(I)Z"⟩, prog_14_method_53_code, 2, (some .boolean))
def mt_212 : MTE := (⟨RX12, "thirstOf", "(III)I"⟩, prog_14_method_54_code, 5, (some .int))
def mt_213 : MTE := (⟨RX12, "goesOn", "(II)V"⟩, prog_14_method_55_code, 4, none)
def mt_214 : MTE := (⟨RX12, "takesOne", "(I)V"⟩, prog_14_method_56_code, 2, none)
def mt_215 : MTE := (⟨RX12, "hour", "()V"⟩, prog_14_method_57_code, 3, none)
def mt_216 : MTE := (⟨RX12, "timer", "(II)I"⟩, prog_14_method_58_code, 3, (some .int))
def mt_217 : MTE := (⟨RX12, "person", "(II)I"⟩, prog_14_method_59_code, 3, (some .int))
def mt_218 : MTE := (⟨RX12, "work", "(II)I"⟩, prog_14_method_60_code, 3, (some .int))
def mt_219 : MTE := (⟨RX12, "well", "(I)I"⟩, prog_14_method_61_code, 2, (some .int))
def mt_220 : MTE := (⟨RX12, "way", "(II)I"⟩, prog_14_method_62_code, 3, (some .int))
def mt_221 : MTE := (⟨RX12, "keeps", "()V"⟩, prog_14_method_63_code, 2, none)
def mt_222 : MTE := (⟨RX12, "hoursPass", "(I)V"⟩, prog_14_method_64_code, 3, none)
def mt_223 : MTE := (⟨RX12, "hours", "(I)I"⟩, prog_14_method_65_code, 2, (some .int))
def mt_224 : MTE := (⟨RX12, "canDraw", "(II)Z"⟩, prog_14_method_66_code, 3, (some .boolean))
def mt_225 : MTE := (⟨RX12, "draws0", "(II)V"⟩, prog_14_method_67_code, 3, none)
def mt_226 : MTE := (⟨RX12, "draw", "(II)I"⟩, prog_14_method_68_code, 3, (some .int))
def mt_227 : MTE := (⟨RX12, "canPour", "(III)Z"⟩, prog_14_method_69_code, 4, (some .boolean))
def mt_228 : MTE := (⟨RX12, "pours", "(III)V"⟩, prog_14_method_70_code, 4, none)
def mt_229 : MTE := (⟨RX12, "pour", "(III)I"⟩, prog_14_method_71_code, 4, (some .int))
def mt_230 : MTE := (⟨RX12, "stepOf", "(II)I"⟩, prog_14_method_72_code, 3, (some .int))
def mt_231 : MTE := (⟨RX12, "walks", "(II)V"⟩, prog_14_method_73_code, 3, none)
def mt_232 : MTE := (⟨RX12, "go", "(II)I"⟩, prog_14_method_74_code, 3, (some .int))
def mt_233 : MTE := (⟨RX12, "steal", "(II)I"⟩, prog_14_method_75_code, 3, (some .int))
def mt_234 : MTE := (⟨RX12, "undo", "()Z"⟩, prog_14_method_76_code, 1, (some .boolean))
def mt_235 : MTE := (⟨RX12, "wrongWorks", "()I"⟩, prog_14_method_77_code, 3, (some .int))
def mt_236 : MTE := (⟨RX12, "goes", "(I)Z"⟩, prog_14_method_78_code, 7, (some .boolean))
def mt_237 : MTE := (⟨RX12, "judged", "(I)I"⟩, prog_14_method_79_code, 5, (some .int))
def mt_238 : MTE := (⟨RX12, "shows", "(II)I"⟩, prog_14_method_80_code, 4, (some .int))
def mt_239 : MTE := (⟨RX12, "stopsOf", "(I)I"⟩, prog_14_method_81_code, 3, (some .int))
def mt_240 : MTE := (⟨RX12, "stops", "(I)I"⟩, prog_14_method_82_code, 2, (some .int))
def mt_241 : MTE := (⟨RX12, "late", "(II)I"⟩, prog_14_method_83_code, 7, (some .int))
def mt_242 : MTE := (⟨RX12, "lastOf", "(IIII)I"⟩, prog_14_method_84_code, 7, (some .int))
def mt_243 : MTE := (⟨RX12, "isKeptWork", "(III)Z"⟩, prog_14_method_85_code, 4, (some .boolean))
def mt_244 : MTE := (⟨RX12, "waterOf", "(II)I"⟩, prog_14_method_86_code, 5, (some .int))
def mt_245 : MTE := (⟨RX12, "siege", "(II)I"⟩, prog_14_method_87_code, 10, (some .int))
def mt_246 : MTE := (⟨RX12, "say", "(III)Z"⟩, prog_14_method_88_code, 4, (some .boolean))
def mt_247 : MTE := (⟨RX12, "agreeing", "(I)I"⟩, prog_14_method_89_code, 4, (some .int))
def mt_248 : MTE := (⟨RX12, "truth", "(I)I"⟩, prog_14_method_90_code, 8, (some .int))
def mt_249 : MTE := (⟨RX12, "rounds", "(IIII)V"⟩, prog_14_method_91_code, 6, none)
def mt_250 : MTE := (⟨RX12, "round", "(II)I"⟩, prog_14_method_92_code, 6, (some .int))
def mt_251 : MTE := (⟨RX12, "caravan", "(IIII)I"⟩, prog_14_method_93_code, 15, (some .int))
def mt_252 : MTE := (⟨RX12, "tell", "(II)Z"⟩, prog_14_method_94_code, 3, (some .boolean))
def mt_253 : MTE := (⟨RX12, "isLaw", "(II)Z"⟩, prog_14_method_95_code, 4, (some .boolean))
def mt_254 : MTE := (⟨RX12, "mostAlike", "(I)I"⟩, prog_14_method_96_code, 5, (some .int))
def mt_255 : MTE := (⟨RX12, "laws", "(I)I"⟩, prog_14_method_97_code, 8, (some .int))
def mt_256 : MTE := (⟨RX12, "isTheft", "(IIIII)Z"⟩, prog_14_method_98_code, 7, (some .boolean))
def mt_257 : MTE := (⟨RX12, "theft", "(IIII)I"⟩, prog_14_method_99_code, 10, (some .int))
def mt_258 : MTE := (⟨RX12, "fills", "(III)V"⟩, prog_14_method_100_code, 6, none)
def mt_259 : MTE := (⟨RX12, "cups", "(III)I"⟩, prog_14_method_101_code, 7, (some .int))
def mt_260 : MTE := (⟨RX12, "hasBy", "(IIIIZ)I"⟩, prog_14_method_102_code, 10, (some .int))
def mt_261 : MTE := (⟨RX12, "isRest", "(IIII)Z"⟩, prog_14_method_103_code, 8, (some .boolean))
def mt_262 : MTE := (⟨RX12, "rests", "(III)I"⟩, prog_14_method_104_code, 6, (some .int))
def mt_263 : MTE := (⟨RX12, "draws", "(I)I"⟩, prog_14_method_105_code, 2, (some .int))
def mt_264 : MTE := (⟨RX12, "livesHour", "()V"⟩, prog_14_method_106_code, 3, none)
def mt_265 : MTE := (⟨RX12, "sum", "([III)I"⟩, prog_14_method_107_code, 5, (some .int))
def mt_266 : MTE := (⟨RX12, "years", "(III)I"⟩, prog_14_method_108_code, 5, (some .int))
def mt_267 : MTE := (⟨RX12, "mark", "(IZ)Z"⟩, prog_14_method_109_code, 5, (some .boolean))
def mt_268 : MTE := (⟨RX12, "count", "(I)I"⟩, prog_14_method_110_code, 4, (some .int))
def mt_269 : MTE := (⟨RJ9, "floorMod", "(II)I"⟩, prog_18_method_50_code, 3, (some .int))
def mt_270 : MTE := (⟨RJ9, "abs", "(I)I"⟩, prog_18_method_59_code, 1, (some .int))
def mt_271 : MTE := (⟨RJ9, "max", "(II)I"⟩, prog_18_method_65_code, 2, (some .int))
def mt_272 : MTE := (⟨RJ9, "min", "(II)I"⟩, prog_18_method_69_code, 2, (some .int))
def mt_273 : MTE := (⟨RL, "rests", "(LThirstHours;III[J)I"⟩, method_3_code, 1000, (some .int))
def mt_274 : MTE := (⟨RL, "law", "([I)Z"⟩, code, 1000, (some .boolean))
def am_MTL : List MTE := [mt_0, mt_1, mt_2, mt_3, mt_4, mt_5, mt_6, mt_7, mt_8, mt_9, mt_10, mt_11, mt_12, mt_13, mt_14, mt_15, mt_16, mt_17, mt_18, mt_19, mt_20, mt_21, mt_22, mt_23, mt_24, mt_25, mt_26, mt_27, mt_28, mt_29, mt_30, mt_31, mt_32, mt_33, mt_34, mt_35, mt_36, mt_37, mt_38, mt_39, mt_40, mt_41, mt_42, mt_43, mt_44, mt_45, mt_46, mt_47, mt_48, mt_49, mt_50, mt_51, mt_52, mt_53, mt_54, mt_55, mt_56, mt_57, mt_58, mt_59, mt_60, mt_61, mt_62, mt_63, mt_64, mt_65, mt_66, mt_67, mt_68, mt_69, mt_70, mt_71, mt_72, mt_73, mt_74, mt_75, mt_76, mt_77, mt_78, mt_79, mt_80, mt_81, mt_82, mt_83, mt_84, mt_85, mt_86, mt_87, mt_88, mt_89, mt_90, mt_91, mt_92, mt_93, mt_94, mt_95, mt_96, mt_97, mt_98, mt_99, mt_100, mt_101, mt_102, mt_103, mt_104, mt_105, mt_106, mt_107, mt_108, mt_109, mt_110, mt_111, mt_112, mt_113, mt_114, mt_115, mt_116, mt_117, mt_118, mt_119, mt_120, mt_121, mt_122, mt_123, mt_124, mt_125, mt_126, mt_127, mt_128, mt_129, mt_130, mt_131, mt_132, mt_133, mt_134, mt_135, mt_136, mt_137, mt_138, mt_139, mt_140, mt_141, mt_142, mt_143, mt_144, mt_145, mt_146, mt_147, mt_148, mt_149, mt_150, mt_151, mt_152, mt_153, mt_154, mt_155, mt_156, mt_157, mt_158, mt_159, mt_160, mt_161, mt_162, mt_163, mt_164, mt_165, mt_166, mt_167, mt_168, mt_169, mt_170, mt_171, mt_172, mt_173, mt_174, mt_175, mt_176, mt_177, mt_178, mt_179, mt_180, mt_181, mt_182, mt_183, mt_184, mt_185, mt_186, mt_187, mt_188, mt_189, mt_190, mt_191, mt_192, mt_193, mt_194, mt_195, mt_196, mt_197, mt_198, mt_199, mt_200, mt_201, mt_202, mt_203, mt_204, mt_205, mt_206, mt_207, mt_208, mt_209, mt_210, mt_211, mt_212, mt_213, mt_214, mt_215, mt_216, mt_217, mt_218, mt_219, mt_220, mt_221, mt_222, mt_223, mt_224, mt_225, mt_226, mt_227, mt_228, mt_229, mt_230, mt_231, mt_232, mt_233, mt_234, mt_235, mt_236, mt_237, mt_238, mt_239, mt_240, mt_241, mt_242, mt_243, mt_244, mt_245, mt_246, mt_247, mt_248, mt_249, mt_250, mt_251, mt_252, mt_253, mt_254, mt_255, mt_256, mt_257, mt_258, mt_259, mt_260, mt_261, mt_262, mt_263, mt_264, mt_265, mt_266, mt_267, mt_268, mt_269, mt_270, mt_271, mt_272, mt_273, mt_274]
def am_MT : Nat → MTE := fun m => am_MTL.getD m (⟨"", "", ""⟩, ⟨#[]⟩, 1000, none)
def am_mkl : List (Nat × Nat × Nat) := [(2, 1, 0), (0, 1, 3), (0, 1, 4), (0, 1, 3), (0, 1, 4), (1, 0, 1), (1, 0, 3), (0, 1, 5), (0, 1, 5), (0, 1, 4), (0, 1, 4), (0, 1, 1), (0, 1, 5), (0, 1, 1), (0, 1, 1), (2, 2, 1), (0, 2, 3), (0, 2, 1), (0, 2, 3), (0, 2, 4), (0, 2, 2), (0, 2, 5), (0, 2, 2), (0, 2, 2), (0, 2, 2), (0, 2, 5), (0, 2, 5), (0, 2, 5), (0, 2, 5), (0, 2, 1), (2, 3, 0), (0, 3, 1), (0, 3, 4), (0, 3, 3), (2, 4, 0), (0, 4, 1), (0, 4, 2), (0, 4, 2), (0, 4, 1), (0, 4, 1), (0, 4, 2), (2, 5, 0), (0, 5, 0), (0, 5, 0), (0, 5, 1), (0, 5, 4), (2, 6, 0), (0, 6, 0), (0, 6, 1), (0, 6, 1), (0, 6, 1), (0, 6, 3), (0, 6, 2), (0, 6, 2), (0, 6, 0), (0, 6, 2), (0, 6, 3), (0, 6, 3), (0, 6, 4), (0, 6, 2), (0, 6, 1), (0, 6, 2), (0, 6, 2), (0, 6, 3), (0, 6, 1), (0, 6, 2), (0, 6, 3), (0, 6, 4), (0, 6, 3), (0, 6, 3), (0, 6, 1), (0, 6, 1), (0, 6, 1), (0, 6, 1), (0, 6, 1), (2, 7, 1), (0, 7, 1), (0, 7, 2), (0, 7, 1), (0, 7, 1), (0, 7, 1), (0, 7, 2), (0, 7, 1), (0, 7, 2), (0, 7, 2), (0, 7, 0), (0, 7, 0), (0, 7, 0), (0, 7, 0), (0, 7, 1), (0, 7, 0), (0, 7, 0), (0, 7, 0), (0, 7, 0), (0, 7, 0), (0, 7, 1), (0, 7, 1), (0, 7, 1), (0, 7, 1), (0, 7, 1), (0, 7, 0), (0, 7, 0), (0, 7, 0), (0, 7, 2), (0, 7, 1), (0, 7, 1), (2, 8, 0), (0, 8, 1), (0, 8, 2), (2, 9, 0), (0, 9, 1), (2, 10, 0), (1, 0, 2), (0, 10, 1), (0, 10, 0), (0, 10, 0), (0, 10, 0), (0, 10, 0), (0, 10, 0), (0, 10, 0), (0, 10, 0), (1, 0, 1), (1, 0, 1), (1, 0, 1), (2, 12, 0), (0, 12, 3), (0, 12, 1), (0, 12, 0), (0, 12, 0), (0, 12, 0), (0, 12, 2), (0, 12, 2), (0, 12, 2), (0, 12, 1), (0, 12, 2), (0, 12, 1), (0, 12, 2), (0, 12, 3), (0, 12, 2), (0, 12, 2), (0, 12, 0), (0, 12, 0), (0, 12, 1), (0, 12, 2), (0, 12, 1), (0, 12, 2), (0, 12, 2), (0, 12, 3), (0, 12, 1), (0, 12, 2), (0, 12, 4), (0, 12, 2), (0, 12, 1), (0, 12, 4), (0, 12, 3), (9, 0, 3), (0, 12, 3), (0, 12, 2), (0, 12, 1), (2, 13, 0), (0, 13, 0), (1, 0, 3), (1, 0, 3), (1, 0, 2), (0, 13, 3), (0, 13, 1), (0, 13, 0), (0, 13, 1), (0, 13, 1), (0, 13, 1), (0, 13, 1), (0, 13, 0), (0, 13, 0), (0, 13, 1), (0, 13, 1), (0, 13, 1), (0, 13, 1), (0, 13, 0), (1, 0, 4), (0, 13, 1), (0, 13, 1), (0, 13, 1), (0, 13, 2), (0, 13, 1), (0, 13, 3), (0, 13, 0), (0, 13, 0), (0, 13, 2), (0, 13, 2), (0, 13, 0), (0, 13, 0), (0, 13, 0), (0, 13, 0), (0, 13, 0), (0, 13, 0), (0, 13, 0), (0, 13, 0), (0, 13, 0), (1, 0, 2), (1, 0, 2), (0, 13, 0), (1, 0, 4), (0, 13, 2), (0, 13, 0), (0, 13, 2), (0, 13, 2), (0, 13, 0), (0, 13, 0), (0, 13, 0), (0, 13, 1), (0, 13, 1), (0, 13, 1), (0, 13, 3), (0, 13, 2), (0, 13, 1), (0, 13, 0), (0, 13, 2), (0, 13, 2), (0, 13, 2), (0, 13, 1), (0, 13, 2), (0, 13, 0), (0, 13, 1), (0, 13, 1), (0, 13, 2), (0, 13, 2), (0, 13, 2), (0, 13, 3), (0, 13, 3), (0, 13, 3), (0, 13, 2), (0, 13, 2), (0, 13, 2), (0, 13, 2), (0, 13, 0), (0, 13, 0), (0, 13, 1), (0, 13, 1), (0, 13, 2), (0, 13, 1), (0, 13, 1), (0, 13, 2), (0, 13, 4), (0, 13, 3), (0, 13, 2), (0, 13, 2), (0, 13, 3), (0, 13, 1), (0, 13, 1), (0, 13, 4), (0, 13, 2), (0, 13, 4), (0, 13, 2), (0, 13, 2), (0, 13, 1), (0, 13, 1), (0, 13, 5), (0, 13, 4), (0, 13, 3), (0, 13, 3), (0, 13, 5), (0, 13, 4), (0, 13, 3), (0, 13, 1), (0, 13, 0), (1, 0, 3), (0, 13, 3), (0, 13, 2), (0, 13, 1), (1, 0, 2), (1, 0, 1), (1, 0, 2), (1, 0, 2), (9, 0, 5), (9, 0, 1)]
def am_mk : MK := fun m => am_mkl.getD m (9, 0, 0)
set_option maxRecDepth 100000 in
theorem mw_0 : ∀ w ∈ ([am_cd mt_0, .initialized mt_0.1.cls, .instanceMethod mt_0.1] : List Cond), w ∈ am_TB := am_inTB [500, 133, 499] rfl rfl
set_option maxRecDepth 100000 in
theorem mf_0 : am_mf am_MT am_mk 0 := ⟨⟨mw_0 _ (List.mem_of_getElem? (i := 0) rfl), mw_0 _ (List.mem_of_getElem? (i := 1) rfl), by decide +kernel, by decide +kernel, by decide⟩, by decide +kernel, fun z => absurd z (by decide), fun z => absurd z (by decide), fun _ => ⟨mw_0 _ (List.mem_of_getElem? (i := 2) rfl), rfl, rfl⟩⟩
set_option maxRecDepth 100000 in
theorem mw_1 : ∀ w ∈ ([am_cd mt_1, .initialized mt_1.1.cls, .instanceMethod mt_1.1, .selects mt_1.1.cls mt_1.1 mt_1.1] : List Cond), w ∈ am_TB := am_inTB [1053, 133, 1051, 1052] rfl rfl
set_option maxRecDepth 100000 in
theorem mf_1 : am_mf am_MT am_mk 1 := ⟨⟨mw_1 _ (List.mem_of_getElem? (i := 0) rfl), mw_1 _ (List.mem_of_getElem? (i := 1) rfl), by decide +kernel, by decide +kernel, by decide⟩, by decide +kernel, fun z => ⟨mw_1 _ (List.mem_of_getElem? (i := 2) rfl), mw_1 _ (List.mem_of_getElem? (i := 3) rfl), 0, _, rfl, rfl, rfl, by decide, by decide⟩, fun z => absurd z (by decide), fun z => absurd z (by decide)⟩
set_option maxRecDepth 100000 in
theorem mw_2 : ∀ w ∈ ([am_cd mt_2, .initialized mt_2.1.cls, .instanceMethod mt_2.1, .selects mt_2.1.cls mt_2.1 mt_2.1] : List Cond), w ∈ am_TB := am_inTB [1079, 133, 1077, 1078] rfl rfl
set_option maxRecDepth 100000 in
theorem mf_2 : am_mf am_MT am_mk 2 := ⟨⟨mw_2 _ (List.mem_of_getElem? (i := 0) rfl), mw_2 _ (List.mem_of_getElem? (i := 1) rfl), by decide +kernel, by decide +kernel, by decide⟩, by decide +kernel, fun z => ⟨mw_2 _ (List.mem_of_getElem? (i := 2) rfl), mw_2 _ (List.mem_of_getElem? (i := 3) rfl), 0, _, rfl, rfl, rfl, by decide, by decide⟩, fun z => absurd z (by decide), fun z => absurd z (by decide)⟩
set_option maxRecDepth 100000 in
theorem mw_3 : ∀ w ∈ ([am_cd mt_3, .initialized mt_3.1.cls, .instanceMethod mt_3.1, .selects mt_3.1.cls mt_3.1 mt_3.1] : List Cond), w ∈ am_TB := am_inTB [1092, 133, 1090, 1091] rfl rfl
set_option maxRecDepth 100000 in
theorem mf_3 : am_mf am_MT am_mk 3 := ⟨⟨mw_3 _ (List.mem_of_getElem? (i := 0) rfl), mw_3 _ (List.mem_of_getElem? (i := 1) rfl), by decide +kernel, by decide +kernel, by decide⟩, by decide +kernel, fun z => ⟨mw_3 _ (List.mem_of_getElem? (i := 2) rfl), mw_3 _ (List.mem_of_getElem? (i := 3) rfl), 0, _, rfl, rfl, rfl, by decide, by decide⟩, fun z => absurd z (by decide), fun z => absurd z (by decide)⟩
set_option maxRecDepth 100000 in
theorem mw_4 : ∀ w ∈ ([am_cd mt_4, .initialized mt_4.1.cls, .instanceMethod mt_4.1, .selects mt_4.1.cls mt_4.1 mt_4.1] : List Cond), w ∈ am_TB := am_inTB [1100, 133, 1098, 1099] rfl rfl
set_option maxRecDepth 100000 in
theorem mf_4 : am_mf am_MT am_mk 4 := ⟨⟨mw_4 _ (List.mem_of_getElem? (i := 0) rfl), mw_4 _ (List.mem_of_getElem? (i := 1) rfl), by decide +kernel, by decide +kernel, by decide⟩, by decide +kernel, fun z => ⟨mw_4 _ (List.mem_of_getElem? (i := 2) rfl), mw_4 _ (List.mem_of_getElem? (i := 3) rfl), 0, _, rfl, rfl, rfl, by decide, by decide⟩, fun z => absurd z (by decide), fun z => absurd z (by decide)⟩
set_option maxRecDepth 100000 in
theorem mw_5 : ∀ w ∈ ([am_cd mt_5, .initialized mt_5.1.cls, .static mt_5.1] : List Cond), w ∈ am_TB := am_inTB [1104, 133, 1103] rfl rfl
set_option maxRecDepth 100000 in
theorem mf_5 : am_mf am_MT am_mk 5 := ⟨⟨mw_5 _ (List.mem_of_getElem? (i := 0) rfl), mw_5 _ (List.mem_of_getElem? (i := 1) rfl), by decide +kernel, by decide +kernel, by decide⟩, by decide +kernel, fun z => absurd z (by decide), fun _ => mw_5 _ (List.mem_of_getElem? (i := 2) rfl), fun z => absurd z (by decide)⟩
set_option maxRecDepth 100000 in
theorem mw_6 : ∀ w ∈ ([am_cd mt_6, .initialized mt_6.1.cls, .static mt_6.1] : List Cond), w ∈ am_TB := am_inTB [1183, 133, 1182] rfl rfl
set_option maxRecDepth 100000 in
theorem mf_6 : am_mf am_MT am_mk 6 := ⟨⟨mw_6 _ (List.mem_of_getElem? (i := 0) rfl), mw_6 _ (List.mem_of_getElem? (i := 1) rfl), by decide +kernel, by decide +kernel, by decide⟩, by decide +kernel, fun z => absurd z (by decide), fun _ => mw_6 _ (List.mem_of_getElem? (i := 2) rfl), fun z => absurd z (by decide)⟩
set_option maxRecDepth 100000 in
theorem mw_7 : ∀ w ∈ ([am_cd mt_7, .initialized mt_7.1.cls, .instanceMethod mt_7.1, .selects mt_7.1.cls mt_7.1 mt_7.1] : List Cond), w ∈ am_TB := am_inTB [1174, 133, 1172, 1173] rfl rfl
set_option maxRecDepth 100000 in
theorem mf_7 : am_mf am_MT am_mk 7 := ⟨⟨mw_7 _ (List.mem_of_getElem? (i := 0) rfl), mw_7 _ (List.mem_of_getElem? (i := 1) rfl), by decide +kernel, by decide +kernel, by decide⟩, by decide +kernel, fun z => ⟨mw_7 _ (List.mem_of_getElem? (i := 2) rfl), mw_7 _ (List.mem_of_getElem? (i := 3) rfl), 0, _, rfl, rfl, rfl, by decide, by decide⟩, fun z => absurd z (by decide), fun z => absurd z (by decide)⟩
set_option maxRecDepth 100000 in
theorem mw_8 : ∀ w ∈ ([am_cd mt_8, .initialized mt_8.1.cls, .instanceMethod mt_8.1, .selects mt_8.1.cls mt_8.1 mt_8.1] : List Cond), w ∈ am_TB := am_inTB [1219, 133, 1217, 1218] rfl rfl
set_option maxRecDepth 100000 in
theorem mf_8 : am_mf am_MT am_mk 8 := ⟨⟨mw_8 _ (List.mem_of_getElem? (i := 0) rfl), mw_8 _ (List.mem_of_getElem? (i := 1) rfl), by decide +kernel, by decide +kernel, by decide⟩, by decide +kernel, fun z => ⟨mw_8 _ (List.mem_of_getElem? (i := 2) rfl), mw_8 _ (List.mem_of_getElem? (i := 3) rfl), 0, _, rfl, rfl, rfl, by decide, by decide⟩, fun z => absurd z (by decide), fun z => absurd z (by decide)⟩
set_option maxRecDepth 100000 in
theorem mw_9 : ∀ w ∈ ([am_cd mt_9, .initialized mt_9.1.cls, .instanceMethod mt_9.1, .selects mt_9.1.cls mt_9.1 mt_9.1] : List Cond), w ∈ am_TB := am_inTB [1223, 133, 1222, 45] rfl rfl
set_option maxRecDepth 100000 in
theorem mf_9 : am_mf am_MT am_mk 9 := ⟨⟨mw_9 _ (List.mem_of_getElem? (i := 0) rfl), mw_9 _ (List.mem_of_getElem? (i := 1) rfl), by decide +kernel, by decide +kernel, by decide⟩, by decide +kernel, fun z => ⟨mw_9 _ (List.mem_of_getElem? (i := 2) rfl), mw_9 _ (List.mem_of_getElem? (i := 3) rfl), 0, _, rfl, rfl, rfl, by decide, by decide⟩, fun z => absurd z (by decide), fun z => absurd z (by decide)⟩
set_option maxRecDepth 100000 in
theorem mw_10 : ∀ w ∈ ([am_cd mt_10, .initialized mt_10.1.cls, .instanceMethod mt_10.1, .selects mt_10.1.cls mt_10.1 mt_10.1] : List Cond), w ∈ am_TB := am_inTB [1227, 133, 1226, 46] rfl rfl
set_option maxRecDepth 100000 in
theorem mf_10 : am_mf am_MT am_mk 10 := ⟨⟨mw_10 _ (List.mem_of_getElem? (i := 0) rfl), mw_10 _ (List.mem_of_getElem? (i := 1) rfl), by decide +kernel, by decide +kernel, by decide⟩, by decide +kernel, fun z => ⟨mw_10 _ (List.mem_of_getElem? (i := 2) rfl), mw_10 _ (List.mem_of_getElem? (i := 3) rfl), 0, _, rfl, rfl, rfl, by decide, by decide⟩, fun z => absurd z (by decide), fun z => absurd z (by decide)⟩
set_option maxRecDepth 100000 in
theorem mw_11 : ∀ w ∈ ([am_cd mt_11, .initialized mt_11.1.cls, .instanceMethod mt_11.1, .selects mt_11.1.cls mt_11.1 mt_11.1] : List Cond), w ∈ am_TB := am_inTB [1256, 133, 1255, 48] rfl rfl
set_option maxRecDepth 100000 in
theorem mf_11 : am_mf am_MT am_mk 11 := ⟨⟨mw_11 _ (List.mem_of_getElem? (i := 0) rfl), mw_11 _ (List.mem_of_getElem? (i := 1) rfl), by decide +kernel, by decide +kernel, by decide⟩, by decide +kernel, fun z => ⟨mw_11 _ (List.mem_of_getElem? (i := 2) rfl), mw_11 _ (List.mem_of_getElem? (i := 3) rfl), 0, _, rfl, rfl, rfl, by decide, by decide⟩, fun z => absurd z (by decide), fun z => absurd z (by decide)⟩
set_option maxRecDepth 100000 in
theorem mw_12 : ∀ w ∈ ([am_cd mt_12, .initialized mt_12.1.cls, .instanceMethod mt_12.1, .selects mt_12.1.cls mt_12.1 mt_12.1] : List Cond), w ∈ am_TB := am_inTB [1252, 133, 1250, 1251] rfl rfl
set_option maxRecDepth 100000 in
theorem mf_12 : am_mf am_MT am_mk 12 := ⟨⟨mw_12 _ (List.mem_of_getElem? (i := 0) rfl), mw_12 _ (List.mem_of_getElem? (i := 1) rfl), by decide +kernel, by decide +kernel, by decide⟩, by decide +kernel, fun z => ⟨mw_12 _ (List.mem_of_getElem? (i := 2) rfl), mw_12 _ (List.mem_of_getElem? (i := 3) rfl), 0, _, rfl, rfl, rfl, by decide, by decide⟩, fun z => absurd z (by decide), fun z => absurd z (by decide)⟩
set_option maxRecDepth 100000 in
theorem mw_13 : ∀ w ∈ ([am_cd mt_13, .initialized mt_13.1.cls, .instanceMethod mt_13.1, .selects mt_13.1.cls mt_13.1 mt_13.1] : List Cond), w ∈ am_TB := am_inTB [1264, 133, 1263, 49] rfl rfl
set_option maxRecDepth 100000 in
theorem mf_13 : am_mf am_MT am_mk 13 := ⟨⟨mw_13 _ (List.mem_of_getElem? (i := 0) rfl), mw_13 _ (List.mem_of_getElem? (i := 1) rfl), by decide +kernel, by decide +kernel, by decide⟩, by decide +kernel, fun z => ⟨mw_13 _ (List.mem_of_getElem? (i := 2) rfl), mw_13 _ (List.mem_of_getElem? (i := 3) rfl), 0, _, rfl, rfl, rfl, by decide, by decide⟩, fun z => absurd z (by decide), fun z => absurd z (by decide)⟩
set_option maxRecDepth 100000 in
theorem mw_14 : ∀ w ∈ ([am_cd mt_14, .initialized mt_14.1.cls, .instanceMethod mt_14.1, .selects mt_14.1.cls mt_14.1 mt_14.1] : List Cond), w ∈ am_TB := am_inTB [1272, 133, 1271, 50] rfl rfl
set_option maxRecDepth 100000 in
theorem mf_14 : am_mf am_MT am_mk 14 := ⟨⟨mw_14 _ (List.mem_of_getElem? (i := 0) rfl), mw_14 _ (List.mem_of_getElem? (i := 1) rfl), by decide +kernel, by decide +kernel, by decide⟩, by decide +kernel, fun z => ⟨mw_14 _ (List.mem_of_getElem? (i := 2) rfl), mw_14 _ (List.mem_of_getElem? (i := 3) rfl), 0, _, rfl, rfl, rfl, by decide, by decide⟩, fun z => absurd z (by decide), fun z => absurd z (by decide)⟩
set_option maxRecDepth 100000 in
theorem mw_15 : ∀ w ∈ ([am_cd mt_15, .initialized mt_15.1.cls, .instanceMethod mt_15.1] : List Cond), w ∈ am_TB := am_inTB [519, 134, 518] rfl rfl
set_option maxRecDepth 100000 in
theorem mf_15 : am_mf am_MT am_mk 15 := ⟨⟨mw_15 _ (List.mem_of_getElem? (i := 0) rfl), mw_15 _ (List.mem_of_getElem? (i := 1) rfl), by decide +kernel, by decide +kernel, by decide⟩, by decide +kernel, fun z => absurd z (by decide), fun z => absurd z (by decide), fun _ => ⟨mw_15 _ (List.mem_of_getElem? (i := 2) rfl), rfl, rfl⟩⟩
set_option maxRecDepth 100000 in
theorem mw_16 : ∀ w ∈ ([am_cd mt_16, .initialized mt_16.1.cls, .instanceMethod mt_16.1, .selects mt_16.1.cls mt_16.1 mt_16.1] : List Cond), w ∈ am_TB := am_inTB [1112, 134, 1110, 1111] rfl rfl
set_option maxRecDepth 100000 in
theorem mf_16 : am_mf am_MT am_mk 16 := ⟨⟨mw_16 _ (List.mem_of_getElem? (i := 0) rfl), mw_16 _ (List.mem_of_getElem? (i := 1) rfl), by decide +kernel, by decide +kernel, by decide⟩, by decide +kernel, fun z => ⟨mw_16 _ (List.mem_of_getElem? (i := 2) rfl), mw_16 _ (List.mem_of_getElem? (i := 3) rfl), 1, _, rfl, rfl, rfl, by decide, by decide⟩, fun z => absurd z (by decide), fun z => absurd z (by decide)⟩
set_option maxRecDepth 100000 in
theorem mw_17 : ∀ w ∈ ([am_cd mt_17, .initialized mt_17.1.cls, .instanceMethod mt_17.1, .selects mt_17.1.cls mt_17.1 mt_17.1] : List Cond), w ∈ am_TB := am_inTB [1116, 134, 1115, 38] rfl rfl
set_option maxRecDepth 100000 in
theorem mf_17 : am_mf am_MT am_mk 17 := ⟨⟨mw_17 _ (List.mem_of_getElem? (i := 0) rfl), mw_17 _ (List.mem_of_getElem? (i := 1) rfl), by decide +kernel, by decide +kernel, by decide⟩, by decide +kernel, fun z => ⟨mw_17 _ (List.mem_of_getElem? (i := 2) rfl), mw_17 _ (List.mem_of_getElem? (i := 3) rfl), 1, _, rfl, rfl, rfl, by decide, by decide⟩, fun z => absurd z (by decide), fun z => absurd z (by decide)⟩
set_option maxRecDepth 100000 in
theorem mw_18 : ∀ w ∈ ([am_cd mt_18, .initialized mt_18.1.cls, .instanceMethod mt_18.1, .selects mt_18.1.cls mt_18.1 mt_18.1] : List Cond), w ∈ am_TB := am_inTB [1121, 134, 1120, 39] rfl rfl
set_option maxRecDepth 100000 in
theorem mf_18 : am_mf am_MT am_mk 18 := ⟨⟨mw_18 _ (List.mem_of_getElem? (i := 0) rfl), mw_18 _ (List.mem_of_getElem? (i := 1) rfl), by decide +kernel, by decide +kernel, by decide⟩, by decide +kernel, fun z => ⟨mw_18 _ (List.mem_of_getElem? (i := 2) rfl), mw_18 _ (List.mem_of_getElem? (i := 3) rfl), 1, _, rfl, rfl, rfl, by decide, by decide⟩, fun z => absurd z (by decide), fun z => absurd z (by decide)⟩
set_option maxRecDepth 100000 in
theorem mw_19 : ∀ w ∈ ([am_cd mt_19, .initialized mt_19.1.cls, .instanceMethod mt_19.1, .selects mt_19.1.cls mt_19.1 mt_19.1] : List Cond), w ∈ am_TB := am_inTB [1153, 134, 1151, 1152] rfl rfl
set_option maxRecDepth 100000 in
theorem mf_19 : am_mf am_MT am_mk 19 := ⟨⟨mw_19 _ (List.mem_of_getElem? (i := 0) rfl), mw_19 _ (List.mem_of_getElem? (i := 1) rfl), by decide +kernel, by decide +kernel, by decide⟩, by decide +kernel, fun z => ⟨mw_19 _ (List.mem_of_getElem? (i := 2) rfl), mw_19 _ (List.mem_of_getElem? (i := 3) rfl), 1, _, rfl, rfl, rfl, by decide, by decide⟩, fun z => absurd z (by decide), fun z => absurd z (by decide)⟩
set_option maxRecDepth 100000 in
theorem mw_20 : ∀ w ∈ ([am_cd mt_20, .initialized mt_20.1.cls, .instanceMethod mt_20.1, .selects mt_20.1.cls mt_20.1 mt_20.1] : List Cond), w ∈ am_TB := am_inTB [1158, 134, 1157, 41] rfl rfl
set_option maxRecDepth 100000 in
theorem mf_20 : am_mf am_MT am_mk 20 := ⟨⟨mw_20 _ (List.mem_of_getElem? (i := 0) rfl), mw_20 _ (List.mem_of_getElem? (i := 1) rfl), by decide +kernel, by decide +kernel, by decide⟩, by decide +kernel, fun z => ⟨mw_20 _ (List.mem_of_getElem? (i := 2) rfl), mw_20 _ (List.mem_of_getElem? (i := 3) rfl), 1, _, rfl, rfl, rfl, by decide, by decide⟩, fun z => absurd z (by decide), fun z => absurd z (by decide)⟩
set_option maxRecDepth 100000 in
theorem mw_21 : ∀ w ∈ ([am_cd mt_21, .initialized mt_21.1.cls, .instanceMethod mt_21.1, .selects mt_21.1.cls mt_21.1 mt_21.1] : List Cond), w ∈ am_TB := am_inTB [1163, 134, 1162, 42] rfl rfl
set_option maxRecDepth 100000 in
theorem mf_21 : am_mf am_MT am_mk 21 := ⟨⟨mw_21 _ (List.mem_of_getElem? (i := 0) rfl), mw_21 _ (List.mem_of_getElem? (i := 1) rfl), by decide +kernel, by decide +kernel, by decide⟩, by decide +kernel, fun z => ⟨mw_21 _ (List.mem_of_getElem? (i := 2) rfl), mw_21 _ (List.mem_of_getElem? (i := 3) rfl), 1, _, rfl, rfl, rfl, by decide, by decide⟩, fun z => absurd z (by decide), fun z => absurd z (by decide)⟩
set_option maxRecDepth 100000 in
theorem mw_22 : ∀ w ∈ ([am_cd mt_22, .initialized mt_22.1.cls, .instanceMethod mt_22.1, .selects mt_22.1.cls mt_22.1 mt_22.1] : List Cond), w ∈ am_TB := am_inTB [1199, 134, 1197, 1198] rfl rfl
set_option maxRecDepth 100000 in
theorem mf_22 : am_mf am_MT am_mk 22 := ⟨⟨mw_22 _ (List.mem_of_getElem? (i := 0) rfl), mw_22 _ (List.mem_of_getElem? (i := 1) rfl), by decide +kernel, by decide +kernel, by decide⟩, by decide +kernel, fun z => ⟨mw_22 _ (List.mem_of_getElem? (i := 2) rfl), mw_22 _ (List.mem_of_getElem? (i := 3) rfl), 1, _, rfl, rfl, rfl, by decide, by decide⟩, fun z => absurd z (by decide), fun z => absurd z (by decide)⟩
set_option maxRecDepth 100000 in
theorem mw_23 : ∀ w ∈ ([am_cd mt_23, .initialized mt_23.1.cls, .instanceMethod mt_23.1, .selects mt_23.1.cls mt_23.1 mt_23.1] : List Cond), w ∈ am_TB := am_inTB [1207, 134, 1206, 43] rfl rfl
set_option maxRecDepth 100000 in
theorem mf_23 : am_mf am_MT am_mk 23 := ⟨⟨mw_23 _ (List.mem_of_getElem? (i := 0) rfl), mw_23 _ (List.mem_of_getElem? (i := 1) rfl), by decide +kernel, by decide +kernel, by decide⟩, by decide +kernel, fun z => ⟨mw_23 _ (List.mem_of_getElem? (i := 2) rfl), mw_23 _ (List.mem_of_getElem? (i := 3) rfl), 1, _, rfl, rfl, rfl, by decide, by decide⟩, fun z => absurd z (by decide), fun z => absurd z (by decide)⟩
set_option maxRecDepth 100000 in
theorem mw_24 : ∀ w ∈ ([am_cd mt_24, .initialized mt_24.1.cls, .instanceMethod mt_24.1, .selects mt_24.1.cls mt_24.1 mt_24.1] : List Cond), w ∈ am_TB := am_inTB [1211, 134, 1210, 44] rfl rfl
set_option maxRecDepth 100000 in
theorem mf_24 : am_mf am_MT am_mk 24 := ⟨⟨mw_24 _ (List.mem_of_getElem? (i := 0) rfl), mw_24 _ (List.mem_of_getElem? (i := 1) rfl), by decide +kernel, by decide +kernel, by decide⟩, by decide +kernel, fun z => ⟨mw_24 _ (List.mem_of_getElem? (i := 2) rfl), mw_24 _ (List.mem_of_getElem? (i := 3) rfl), 1, _, rfl, rfl, rfl, by decide, by decide⟩, fun z => absurd z (by decide), fun z => absurd z (by decide)⟩
set_option maxRecDepth 100000 in
theorem mw_25 : ∀ w ∈ ([am_cd mt_25, .initialized mt_25.1.cls, .instanceMethod mt_25.1, .selects mt_25.1.cls mt_25.1 mt_25.1] : List Cond), w ∈ am_TB := am_inTB [1239, 134, 1237, 1238] rfl rfl
set_option maxRecDepth 100000 in
theorem mf_25 : am_mf am_MT am_mk 25 := ⟨⟨mw_25 _ (List.mem_of_getElem? (i := 0) rfl), mw_25 _ (List.mem_of_getElem? (i := 1) rfl), by decide +kernel, by decide +kernel, by decide⟩, by decide +kernel, fun z => ⟨mw_25 _ (List.mem_of_getElem? (i := 2) rfl), mw_25 _ (List.mem_of_getElem? (i := 3) rfl), 1, _, rfl, rfl, rfl, by decide, by decide⟩, fun z => absurd z (by decide), fun z => absurd z (by decide)⟩
set_option maxRecDepth 100000 in
theorem mw_26 : ∀ w ∈ ([am_cd mt_26, .initialized mt_26.1.cls, .instanceMethod mt_26.1, .selects mt_26.1.cls mt_26.1 mt_26.1] : List Cond), w ∈ am_TB := am_inTB [1244, 134, 1243, 47] rfl rfl
set_option maxRecDepth 100000 in
theorem mf_26 : am_mf am_MT am_mk 26 := ⟨⟨mw_26 _ (List.mem_of_getElem? (i := 0) rfl), mw_26 _ (List.mem_of_getElem? (i := 1) rfl), by decide +kernel, by decide +kernel, by decide⟩, by decide +kernel, fun z => ⟨mw_26 _ (List.mem_of_getElem? (i := 2) rfl), mw_26 _ (List.mem_of_getElem? (i := 3) rfl), 1, _, rfl, rfl, rfl, by decide, by decide⟩, fun z => absurd z (by decide), fun z => absurd z (by decide)⟩
set_option maxRecDepth 100000 in
theorem mw_27 : ∀ w ∈ ([am_cd mt_27, .initialized mt_27.1.cls, .instanceMethod mt_27.1, .selects mt_27.1.cls mt_27.1 mt_27.1] : List Cond), w ∈ am_TB := am_inTB [1373, 134, 1371, 1372] rfl rfl
set_option maxRecDepth 100000 in
theorem mf_27 : am_mf am_MT am_mk 27 := ⟨⟨mw_27 _ (List.mem_of_getElem? (i := 0) rfl), mw_27 _ (List.mem_of_getElem? (i := 1) rfl), by decide +kernel, by decide +kernel, by decide⟩, by decide +kernel, fun z => ⟨mw_27 _ (List.mem_of_getElem? (i := 2) rfl), mw_27 _ (List.mem_of_getElem? (i := 3) rfl), 1, _, rfl, rfl, rfl, by decide, by decide⟩, fun z => absurd z (by decide), fun z => absurd z (by decide)⟩
set_option maxRecDepth 100000 in
theorem mw_28 : ∀ w ∈ ([am_cd mt_28, .initialized mt_28.1.cls, .instanceMethod mt_28.1, .selects mt_28.1.cls mt_28.1 mt_28.1] : List Cond), w ∈ am_TB := am_inTB [1377, 134, 1376, 52] rfl rfl
set_option maxRecDepth 100000 in
theorem mf_28 : am_mf am_MT am_mk 28 := ⟨⟨mw_28 _ (List.mem_of_getElem? (i := 0) rfl), mw_28 _ (List.mem_of_getElem? (i := 1) rfl), by decide +kernel, by decide +kernel, by decide⟩, by decide +kernel, fun z => ⟨mw_28 _ (List.mem_of_getElem? (i := 2) rfl), mw_28 _ (List.mem_of_getElem? (i := 3) rfl), 1, _, rfl, rfl, rfl, by decide, by decide⟩, fun z => absurd z (by decide), fun z => absurd z (by decide)⟩
set_option maxRecDepth 100000 in
theorem mw_29 : ∀ w ∈ ([am_cd mt_29, .initialized mt_29.1.cls, .instanceMethod mt_29.1, .selects mt_29.1.cls mt_29.1 mt_29.1] : List Cond), w ∈ am_TB := am_inTB [1381, 134, 1380, 53] rfl rfl
set_option maxRecDepth 100000 in
theorem mf_29 : am_mf am_MT am_mk 29 := ⟨⟨mw_29 _ (List.mem_of_getElem? (i := 0) rfl), mw_29 _ (List.mem_of_getElem? (i := 1) rfl), by decide +kernel, by decide +kernel, by decide⟩, by decide +kernel, fun z => ⟨mw_29 _ (List.mem_of_getElem? (i := 2) rfl), mw_29 _ (List.mem_of_getElem? (i := 3) rfl), 1, _, rfl, rfl, rfl, by decide, by decide⟩, fun z => absurd z (by decide), fun z => absurd z (by decide)⟩
set_option maxRecDepth 100000 in
theorem mw_30 : ∀ w ∈ ([am_cd mt_30, .initialized mt_30.1.cls, .instanceMethod mt_30.1] : List Cond), w ∈ am_TB := am_inTB [421, 130, 420] rfl rfl
set_option maxRecDepth 100000 in
theorem mf_30 : am_mf am_MT am_mk 30 := ⟨⟨mw_30 _ (List.mem_of_getElem? (i := 0) rfl), mw_30 _ (List.mem_of_getElem? (i := 1) rfl), by decide +kernel, by decide +kernel, by decide⟩, by decide +kernel, fun z => absurd z (by decide), fun z => absurd z (by decide), fun _ => ⟨mw_30 _ (List.mem_of_getElem? (i := 2) rfl), rfl, rfl⟩⟩
set_option maxRecDepth 100000 in
theorem mw_31 : ∀ w ∈ ([am_cd mt_31, .initialized mt_31.1.cls, .instanceMethod mt_31.1, .selects mt_31.1.cls mt_31.1 mt_31.1] : List Cond), w ∈ am_TB := am_inTB [914, 130, 912, 913] rfl rfl
set_option maxRecDepth 100000 in
theorem mf_31 : am_mf am_MT am_mk 31 := ⟨⟨mw_31 _ (List.mem_of_getElem? (i := 0) rfl), mw_31 _ (List.mem_of_getElem? (i := 1) rfl), by decide +kernel, by decide +kernel, by decide⟩, by decide +kernel, fun z => ⟨mw_31 _ (List.mem_of_getElem? (i := 2) rfl), mw_31 _ (List.mem_of_getElem? (i := 3) rfl), 2, _, rfl, rfl, rfl, by decide, by decide⟩, fun z => absurd z (by decide), fun z => absurd z (by decide)⟩
set_option maxRecDepth 100000 in
theorem mw_32 : ∀ w ∈ ([am_cd mt_32, .initialized mt_32.1.cls, .instanceMethod mt_32.1, .selects mt_32.1.cls mt_32.1 mt_32.1] : List Cond), w ∈ am_TB := am_inTB [898, 130, 896, 897] rfl rfl
set_option maxRecDepth 100000 in
theorem mf_32 : am_mf am_MT am_mk 32 := ⟨⟨mw_32 _ (List.mem_of_getElem? (i := 0) rfl), mw_32 _ (List.mem_of_getElem? (i := 1) rfl), by decide +kernel, by decide +kernel, by decide⟩, by decide +kernel, fun z => ⟨mw_32 _ (List.mem_of_getElem? (i := 2) rfl), mw_32 _ (List.mem_of_getElem? (i := 3) rfl), 2, _, rfl, rfl, rfl, by decide, by decide⟩, fun z => absurd z (by decide), fun z => absurd z (by decide)⟩
set_option maxRecDepth 100000 in
theorem mw_33 : ∀ w ∈ ([am_cd mt_33, .initialized mt_33.1.cls, .instanceMethod mt_33.1, .selects mt_33.1.cls mt_33.1 mt_33.1] : List Cond), w ∈ am_TB := am_inTB [1058, 130, 1056, 1057] rfl rfl
set_option maxRecDepth 100000 in
theorem mf_33 : am_mf am_MT am_mk 33 := ⟨⟨mw_33 _ (List.mem_of_getElem? (i := 0) rfl), mw_33 _ (List.mem_of_getElem? (i := 1) rfl), by decide +kernel, by decide +kernel, by decide⟩, by decide +kernel, fun z => ⟨mw_33 _ (List.mem_of_getElem? (i := 2) rfl), mw_33 _ (List.mem_of_getElem? (i := 3) rfl), 2, _, rfl, rfl, rfl, by decide, by decide⟩, fun z => absurd z (by decide), fun z => absurd z (by decide)⟩
set_option maxRecDepth 100000 in
theorem mw_34 : ∀ w ∈ ([am_cd mt_34, .initialized mt_34.1.cls, .instanceMethod mt_34.1] : List Cond), w ∈ am_TB := am_inTB [456, 132, 455] rfl rfl
set_option maxRecDepth 100000 in
theorem mf_34 : am_mf am_MT am_mk 34 := ⟨⟨mw_34 _ (List.mem_of_getElem? (i := 0) rfl), mw_34 _ (List.mem_of_getElem? (i := 1) rfl), by decide +kernel, by decide +kernel, by decide⟩, by decide +kernel, fun z => absurd z (by decide), fun z => absurd z (by decide), fun _ => ⟨mw_34 _ (List.mem_of_getElem? (i := 2) rfl), rfl, rfl⟩⟩
set_option maxRecDepth 100000 in
theorem mw_35 : ∀ w ∈ ([am_cd mt_35, .initialized mt_35.1.cls, .instanceMethod mt_35.1, .selects mt_35.1.cls mt_35.1 mt_35.1] : List Cond), w ∈ am_TB := am_inTB [1286, 132, 1284, 1285] rfl rfl
set_option maxRecDepth 100000 in
theorem mf_35 : am_mf am_MT am_mk 35 := ⟨⟨mw_35 _ (List.mem_of_getElem? (i := 0) rfl), mw_35 _ (List.mem_of_getElem? (i := 1) rfl), by decide +kernel, by decide +kernel, by decide⟩, by decide +kernel, fun z => ⟨mw_35 _ (List.mem_of_getElem? (i := 2) rfl), mw_35 _ (List.mem_of_getElem? (i := 3) rfl), 3, _, rfl, rfl, rfl, by decide, by decide⟩, fun z => absurd z (by decide), fun z => absurd z (by decide)⟩
set_option maxRecDepth 100000 in
theorem mw_36 : ∀ w ∈ ([am_cd mt_36, .initialized mt_36.1.cls, .instanceMethod mt_36.1, .selects mt_36.1.cls mt_36.1 mt_36.1] : List Cond), w ∈ am_TB := am_inTB [1130, 132, 1128, 1129] rfl rfl
set_option maxRecDepth 100000 in
theorem mf_36 : am_mf am_MT am_mk 36 := ⟨⟨mw_36 _ (List.mem_of_getElem? (i := 0) rfl), mw_36 _ (List.mem_of_getElem? (i := 1) rfl), by decide +kernel, by decide +kernel, by decide⟩, by decide +kernel, fun z => ⟨mw_36 _ (List.mem_of_getElem? (i := 2) rfl), mw_36 _ (List.mem_of_getElem? (i := 3) rfl), 3, _, rfl, rfl, rfl, by decide, by decide⟩, fun z => absurd z (by decide), fun z => absurd z (by decide)⟩
set_option maxRecDepth 100000 in
theorem mw_37 : ∀ w ∈ ([am_cd mt_37, .initialized mt_37.1.cls, .instanceMethod mt_37.1, .selects mt_37.1.cls mt_37.1 mt_37.1] : List Cond), w ∈ am_TB := am_inTB [1191, 132, 1189, 1190] rfl rfl
set_option maxRecDepth 100000 in
theorem mf_37 : am_mf am_MT am_mk 37 := ⟨⟨mw_37 _ (List.mem_of_getElem? (i := 0) rfl), mw_37 _ (List.mem_of_getElem? (i := 1) rfl), by decide +kernel, by decide +kernel, by decide⟩, by decide +kernel, fun z => ⟨mw_37 _ (List.mem_of_getElem? (i := 2) rfl), mw_37 _ (List.mem_of_getElem? (i := 3) rfl), 3, _, rfl, rfl, rfl, by decide, by decide⟩, fun z => absurd z (by decide), fun z => absurd z (by decide)⟩
set_option maxRecDepth 100000 in
theorem mw_38 : ∀ w ∈ ([am_cd mt_38, .initialized mt_38.1.cls, .instanceMethod mt_38.1, .selects mt_38.1.cls mt_38.1 mt_38.1] : List Cond), w ∈ am_TB := am_inTB [1138, 132, 1136, 1137] rfl rfl
set_option maxRecDepth 100000 in
theorem mf_38 : am_mf am_MT am_mk 38 := ⟨⟨mw_38 _ (List.mem_of_getElem? (i := 0) rfl), mw_38 _ (List.mem_of_getElem? (i := 1) rfl), by decide +kernel, by decide +kernel, by decide⟩, by decide +kernel, fun z => ⟨mw_38 _ (List.mem_of_getElem? (i := 2) rfl), mw_38 _ (List.mem_of_getElem? (i := 3) rfl), 3, _, rfl, rfl, rfl, by decide, by decide⟩, fun z => absurd z (by decide), fun z => absurd z (by decide)⟩
set_option maxRecDepth 100000 in
theorem mw_39 : ∀ w ∈ ([am_cd mt_39, .initialized mt_39.1.cls, .instanceMethod mt_39.1, .selects mt_39.1.cls mt_39.1 mt_39.1] : List Cond), w ∈ am_TB := am_inTB [1142, 132, 1141, 40] rfl rfl
set_option maxRecDepth 100000 in
theorem mf_39 : am_mf am_MT am_mk 39 := ⟨⟨mw_39 _ (List.mem_of_getElem? (i := 0) rfl), mw_39 _ (List.mem_of_getElem? (i := 1) rfl), by decide +kernel, by decide +kernel, by decide⟩, by decide +kernel, fun z => ⟨mw_39 _ (List.mem_of_getElem? (i := 2) rfl), mw_39 _ (List.mem_of_getElem? (i := 3) rfl), 3, _, rfl, rfl, rfl, by decide, by decide⟩, fun z => absurd z (by decide), fun z => absurd z (by decide)⟩
set_option maxRecDepth 100000 in
theorem mw_40 : ∀ w ∈ ([am_cd mt_40, .initialized mt_40.1.cls, .instanceMethod mt_40.1, .selects mt_40.1.cls mt_40.1 mt_40.1] : List Cond), w ∈ am_TB := am_inTB [1203, 132, 1201, 1202] rfl rfl
set_option maxRecDepth 100000 in
theorem mf_40 : am_mf am_MT am_mk 40 := ⟨⟨mw_40 _ (List.mem_of_getElem? (i := 0) rfl), mw_40 _ (List.mem_of_getElem? (i := 1) rfl), by decide +kernel, by decide +kernel, by decide⟩, by decide +kernel, fun z => ⟨mw_40 _ (List.mem_of_getElem? (i := 2) rfl), mw_40 _ (List.mem_of_getElem? (i := 3) rfl), 3, _, rfl, rfl, rfl, by decide, by decide⟩, fun z => absurd z (by decide), fun z => absurd z (by decide)⟩
set_option maxRecDepth 100000 in
theorem mw_41 : ∀ w ∈ ([am_cd mt_41, .initialized mt_41.1.cls, .instanceMethod mt_41.1] : List Cond), w ∈ am_TB := am_inTB [229, 128, 228] rfl rfl
set_option maxRecDepth 100000 in
theorem mf_41 : am_mf am_MT am_mk 41 := ⟨⟨mw_41 _ (List.mem_of_getElem? (i := 0) rfl), mw_41 _ (List.mem_of_getElem? (i := 1) rfl), by decide +kernel, by decide +kernel, by decide⟩, by decide +kernel, fun z => absurd z (by decide), fun z => absurd z (by decide), fun _ => ⟨mw_41 _ (List.mem_of_getElem? (i := 2) rfl), rfl, rfl⟩⟩
set_option maxRecDepth 100000 in
theorem mw_42 : ∀ w ∈ ([am_cd mt_42, .initialized mt_42.1.cls, .instanceMethod mt_42.1, .selects mt_42.1.cls mt_42.1 mt_42.1] : List Cond), w ∈ am_TB := am_inTB [234, 128, 232, 233] rfl rfl
set_option maxRecDepth 100000 in
theorem mf_42 : am_mf am_MT am_mk 42 := ⟨⟨mw_42 _ (List.mem_of_getElem? (i := 0) rfl), mw_42 _ (List.mem_of_getElem? (i := 1) rfl), by decide +kernel, by decide +kernel, by decide⟩, by decide +kernel, fun z => ⟨mw_42 _ (List.mem_of_getElem? (i := 2) rfl), mw_42 _ (List.mem_of_getElem? (i := 3) rfl), 4, _, rfl, rfl, rfl, by decide, by decide⟩, fun z => absurd z (by decide), fun z => absurd z (by decide)⟩
set_option maxRecDepth 100000 in
theorem mw_43 : ∀ w ∈ ([am_cd mt_43, .initialized mt_43.1.cls, .instanceMethod mt_43.1, .selects mt_43.1.cls mt_43.1 mt_43.1] : List Cond), w ∈ am_TB := am_inTB [804, 128, 802, 803] rfl rfl
set_option maxRecDepth 100000 in
theorem mf_43 : am_mf am_MT am_mk 43 := ⟨⟨mw_43 _ (List.mem_of_getElem? (i := 0) rfl), mw_43 _ (List.mem_of_getElem? (i := 1) rfl), by decide +kernel, by decide +kernel, by decide⟩, by decide +kernel, fun z => ⟨mw_43 _ (List.mem_of_getElem? (i := 2) rfl), mw_43 _ (List.mem_of_getElem? (i := 3) rfl), 4, _, rfl, rfl, rfl, by decide, by decide⟩, fun z => absurd z (by decide), fun z => absurd z (by decide)⟩
set_option maxRecDepth 100000 in
theorem mw_44 : ∀ w ∈ ([am_cd mt_44, .initialized mt_44.1.cls, .instanceMethod mt_44.1, .selects mt_44.1.cls mt_44.1 mt_44.1] : List Cond), w ∈ am_TB := am_inTB [842, 128, 840, 841] rfl rfl
set_option maxRecDepth 100000 in
theorem mf_44 : am_mf am_MT am_mk 44 := ⟨⟨mw_44 _ (List.mem_of_getElem? (i := 0) rfl), mw_44 _ (List.mem_of_getElem? (i := 1) rfl), by decide +kernel, by decide +kernel, by decide⟩, by decide +kernel, fun z => ⟨mw_44 _ (List.mem_of_getElem? (i := 2) rfl), mw_44 _ (List.mem_of_getElem? (i := 3) rfl), 4, _, rfl, rfl, rfl, by decide, by decide⟩, fun z => absurd z (by decide), fun z => absurd z (by decide)⟩
set_option maxRecDepth 100000 in
theorem mw_45 : ∀ w ∈ ([am_cd mt_45, .initialized mt_45.1.cls, .instanceMethod mt_45.1, .selects mt_45.1.cls mt_45.1 mt_45.1] : List Cond), w ∈ am_TB := am_inTB [934, 128, 932, 933] rfl rfl
set_option maxRecDepth 100000 in
theorem mf_45 : am_mf am_MT am_mk 45 := ⟨⟨mw_45 _ (List.mem_of_getElem? (i := 0) rfl), mw_45 _ (List.mem_of_getElem? (i := 1) rfl), by decide +kernel, by decide +kernel, by decide⟩, by decide +kernel, fun z => ⟨mw_45 _ (List.mem_of_getElem? (i := 2) rfl), mw_45 _ (List.mem_of_getElem? (i := 3) rfl), 4, _, rfl, rfl, rfl, by decide, by decide⟩, fun z => absurd z (by decide), fun z => absurd z (by decide)⟩
set_option maxRecDepth 100000 in
theorem mw_46 : ∀ w ∈ ([am_cd mt_46, .initialized mt_46.1.cls, .instanceMethod mt_46.1] : List Cond), w ∈ am_TB := am_inTB [223, 127, 222] rfl rfl
set_option maxRecDepth 100000 in
theorem mf_46 : am_mf am_MT am_mk 46 := ⟨⟨mw_46 _ (List.mem_of_getElem? (i := 0) rfl), mw_46 _ (List.mem_of_getElem? (i := 1) rfl), by decide +kernel, by decide +kernel, by decide⟩, by decide +kernel, fun z => absurd z (by decide), fun z => absurd z (by decide), fun _ => ⟨mw_46 _ (List.mem_of_getElem? (i := 2) rfl), rfl, rfl⟩⟩
set_option maxRecDepth 100000 in
theorem mw_47 : ∀ w ∈ ([am_cd mt_47, .initialized mt_47.1.cls, .instanceMethod mt_47.1, .selects mt_47.1.cls mt_47.1 mt_47.1] : List Cond), w ∈ am_TB := am_inTB [639, 127, 637, 638] rfl rfl
set_option maxRecDepth 100000 in
theorem mf_47 : am_mf am_MT am_mk 47 := ⟨⟨mw_47 _ (List.mem_of_getElem? (i := 0) rfl), mw_47 _ (List.mem_of_getElem? (i := 1) rfl), by decide +kernel, by decide +kernel, by decide⟩, by decide +kernel, fun z => ⟨mw_47 _ (List.mem_of_getElem? (i := 2) rfl), mw_47 _ (List.mem_of_getElem? (i := 3) rfl), 5, _, rfl, rfl, rfl, by decide, by decide⟩, fun z => absurd z (by decide), fun z => absurd z (by decide)⟩
set_option maxRecDepth 100000 in
theorem mw_48 : ∀ w ∈ ([am_cd mt_48, .initialized mt_48.1.cls, .instanceMethod mt_48.1, .selects mt_48.1.cls mt_48.1 mt_48.1] : List Cond), w ∈ am_TB := am_inTB [960, 127, 958, 959] rfl rfl
set_option maxRecDepth 100000 in
theorem mf_48 : am_mf am_MT am_mk 48 := ⟨⟨mw_48 _ (List.mem_of_getElem? (i := 0) rfl), mw_48 _ (List.mem_of_getElem? (i := 1) rfl), by decide +kernel, by decide +kernel, by decide⟩, by decide +kernel, fun z => ⟨mw_48 _ (List.mem_of_getElem? (i := 2) rfl), mw_48 _ (List.mem_of_getElem? (i := 3) rfl), 5, _, rfl, rfl, rfl, by decide, by decide⟩, fun z => absurd z (by decide), fun z => absurd z (by decide)⟩
set_option maxRecDepth 100000 in
theorem mw_49 : ∀ w ∈ ([am_cd mt_49, .initialized mt_49.1.cls, .instanceMethod mt_49.1, .selects mt_49.1.cls mt_49.1 mt_49.1] : List Cond), w ∈ am_TB := am_inTB [923, 127, 921, 922] rfl rfl
set_option maxRecDepth 100000 in
theorem mf_49 : am_mf am_MT am_mk 49 := ⟨⟨mw_49 _ (List.mem_of_getElem? (i := 0) rfl), mw_49 _ (List.mem_of_getElem? (i := 1) rfl), by decide +kernel, by decide +kernel, by decide⟩, by decide +kernel, fun z => ⟨mw_49 _ (List.mem_of_getElem? (i := 2) rfl), mw_49 _ (List.mem_of_getElem? (i := 3) rfl), 5, _, rfl, rfl, rfl, by decide, by decide⟩, fun z => absurd z (by decide), fun z => absurd z (by decide)⟩
set_option maxRecDepth 100000 in
theorem mw_50 : ∀ w ∈ ([am_cd mt_50, .initialized mt_50.1.cls, .instanceMethod mt_50.1, .selects mt_50.1.cls mt_50.1 mt_50.1] : List Cond), w ∈ am_TB := am_inTB [948, 127, 946, 947] rfl rfl
set_option maxRecDepth 100000 in
theorem mf_50 : am_mf am_MT am_mk 50 := ⟨⟨mw_50 _ (List.mem_of_getElem? (i := 0) rfl), mw_50 _ (List.mem_of_getElem? (i := 1) rfl), by decide +kernel, by decide +kernel, by decide⟩, by decide +kernel, fun z => ⟨mw_50 _ (List.mem_of_getElem? (i := 2) rfl), mw_50 _ (List.mem_of_getElem? (i := 3) rfl), 5, _, rfl, rfl, rfl, by decide, by decide⟩, fun z => absurd z (by decide), fun z => absurd z (by decide)⟩
set_option maxRecDepth 100000 in
theorem mw_51 : ∀ w ∈ ([am_cd mt_51, .initialized mt_51.1.cls, .instanceMethod mt_51.1, .selects mt_51.1.cls mt_51.1 mt_51.1] : List Cond), w ∈ am_TB := am_inTB [742, 127, 740, 741] rfl rfl
set_option maxRecDepth 100000 in
theorem mf_51 : am_mf am_MT am_mk 51 := ⟨⟨mw_51 _ (List.mem_of_getElem? (i := 0) rfl), mw_51 _ (List.mem_of_getElem? (i := 1) rfl), by decide +kernel, by decide +kernel, by decide⟩, by decide +kernel, fun z => ⟨mw_51 _ (List.mem_of_getElem? (i := 2) rfl), mw_51 _ (List.mem_of_getElem? (i := 3) rfl), 5, _, rfl, rfl, rfl, by decide, by decide⟩, fun z => absurd z (by decide), fun z => absurd z (by decide)⟩
set_option maxRecDepth 100000 in
theorem mw_52 : ∀ w ∈ ([am_cd mt_52, .initialized mt_52.1.cls, .instanceMethod mt_52.1, .selects mt_52.1.cls mt_52.1 mt_52.1] : List Cond), w ∈ am_TB := am_inTB [738, 127, 736, 737] rfl rfl
set_option maxRecDepth 100000 in
theorem mf_52 : am_mf am_MT am_mk 52 := ⟨⟨mw_52 _ (List.mem_of_getElem? (i := 0) rfl), mw_52 _ (List.mem_of_getElem? (i := 1) rfl), by decide +kernel, by decide +kernel, by decide⟩, by decide +kernel, fun z => ⟨mw_52 _ (List.mem_of_getElem? (i := 2) rfl), mw_52 _ (List.mem_of_getElem? (i := 3) rfl), 5, _, rfl, rfl, rfl, by decide, by decide⟩, fun z => absurd z (by decide), fun z => absurd z (by decide)⟩
set_option maxRecDepth 100000 in
theorem mw_53 : ∀ w ∈ ([am_cd mt_53, .initialized mt_53.1.cls, .instanceMethod mt_53.1, .selects mt_53.1.cls mt_53.1 mt_53.1] : List Cond), w ∈ am_TB := am_inTB [859, 127, 857, 858] rfl rfl
set_option maxRecDepth 100000 in
theorem mf_53 : am_mf am_MT am_mk 53 := ⟨⟨mw_53 _ (List.mem_of_getElem? (i := 0) rfl), mw_53 _ (List.mem_of_getElem? (i := 1) rfl), by decide +kernel, by decide +kernel, by decide⟩, by decide +kernel, fun z => ⟨mw_53 _ (List.mem_of_getElem? (i := 2) rfl), mw_53 _ (List.mem_of_getElem? (i := 3) rfl), 5, _, rfl, rfl, rfl, by decide, by decide⟩, fun z => absurd z (by decide), fun z => absurd z (by decide)⟩
set_option maxRecDepth 100000 in
theorem mw_54 : ∀ w ∈ ([am_cd mt_54, .initialized mt_54.1.cls, .instanceMethod mt_54.1, .selects mt_54.1.cls mt_54.1 mt_54.1] : List Cond), w ∈ am_TB := am_inTB [850, 127, 848, 849] rfl rfl
set_option maxRecDepth 100000 in
theorem mf_54 : am_mf am_MT am_mk 54 := ⟨⟨mw_54 _ (List.mem_of_getElem? (i := 0) rfl), mw_54 _ (List.mem_of_getElem? (i := 1) rfl), by decide +kernel, by decide +kernel, by decide⟩, by decide +kernel, fun z => ⟨mw_54 _ (List.mem_of_getElem? (i := 2) rfl), mw_54 _ (List.mem_of_getElem? (i := 3) rfl), 5, _, rfl, rfl, rfl, by decide, by decide⟩, fun z => absurd z (by decide), fun z => absurd z (by decide)⟩
set_option maxRecDepth 100000 in
theorem mw_55 : ∀ w ∈ ([am_cd mt_55, .initialized mt_55.1.cls, .instanceMethod mt_55.1, .selects mt_55.1.cls mt_55.1 mt_55.1] : List Cond), w ∈ am_TB := am_inTB [855, 127, 854, 28] rfl rfl
set_option maxRecDepth 100000 in
theorem mf_55 : am_mf am_MT am_mk 55 := ⟨⟨mw_55 _ (List.mem_of_getElem? (i := 0) rfl), mw_55 _ (List.mem_of_getElem? (i := 1) rfl), by decide +kernel, by decide +kernel, by decide⟩, by decide +kernel, fun z => ⟨mw_55 _ (List.mem_of_getElem? (i := 2) rfl), mw_55 _ (List.mem_of_getElem? (i := 3) rfl), 5, _, rfl, rfl, rfl, by decide, by decide⟩, fun z => absurd z (by decide), fun z => absurd z (by decide)⟩
set_option maxRecDepth 100000 in
theorem mw_56 : ∀ w ∈ ([am_cd mt_56, .initialized mt_56.1.cls, .instanceMethod mt_56.1, .selects mt_56.1.cls mt_56.1 mt_56.1] : List Cond), w ∈ am_TB := am_inTB [927, 127, 925, 926] rfl rfl
set_option maxRecDepth 100000 in
theorem mf_56 : am_mf am_MT am_mk 56 := ⟨⟨mw_56 _ (List.mem_of_getElem? (i := 0) rfl), mw_56 _ (List.mem_of_getElem? (i := 1) rfl), by decide +kernel, by decide +kernel, by decide⟩, by decide +kernel, fun z => ⟨mw_56 _ (List.mem_of_getElem? (i := 2) rfl), mw_56 _ (List.mem_of_getElem? (i := 3) rfl), 5, _, rfl, rfl, rfl, by decide, by decide⟩, fun z => absurd z (by decide), fun z => absurd z (by decide)⟩
set_option maxRecDepth 100000 in
theorem mw_57 : ∀ w ∈ ([am_cd mt_57, .initialized mt_57.1.cls, .instanceMethod mt_57.1, .selects mt_57.1.cls mt_57.1 mt_57.1] : List Cond), w ∈ am_TB := am_inTB [994, 127, 992, 993] rfl rfl
set_option maxRecDepth 100000 in
theorem mf_57 : am_mf am_MT am_mk 57 := ⟨⟨mw_57 _ (List.mem_of_getElem? (i := 0) rfl), mw_57 _ (List.mem_of_getElem? (i := 1) rfl), by decide +kernel, by decide +kernel, by decide⟩, by decide +kernel, fun z => ⟨mw_57 _ (List.mem_of_getElem? (i := 2) rfl), mw_57 _ (List.mem_of_getElem? (i := 3) rfl), 5, _, rfl, rfl, rfl, by decide, by decide⟩, fun z => absurd z (by decide), fun z => absurd z (by decide)⟩
set_option maxRecDepth 100000 in
theorem mw_58 : ∀ w ∈ ([am_cd mt_58, .initialized mt_58.1.cls, .instanceMethod mt_58.1, .selects mt_58.1.cls mt_58.1 mt_58.1] : List Cond), w ∈ am_TB := am_inTB [1180, 127, 1178, 1179] rfl rfl
set_option maxRecDepth 100000 in
theorem mf_58 : am_mf am_MT am_mk 58 := ⟨⟨mw_58 _ (List.mem_of_getElem? (i := 0) rfl), mw_58 _ (List.mem_of_getElem? (i := 1) rfl), by decide +kernel, by decide +kernel, by decide⟩, by decide +kernel, fun z => ⟨mw_58 _ (List.mem_of_getElem? (i := 2) rfl), mw_58 _ (List.mem_of_getElem? (i := 3) rfl), 5, _, rfl, rfl, rfl, by decide, by decide⟩, fun z => absurd z (by decide), fun z => absurd z (by decide)⟩
set_option maxRecDepth 100000 in
theorem mw_59 : ∀ w ∈ ([am_cd mt_59, .initialized mt_59.1.cls, .instanceMethod mt_59.1, .selects mt_59.1.cls mt_59.1 mt_59.1] : List Cond), w ∈ am_TB := am_inTB [973, 127, 971, 972] rfl rfl
set_option maxRecDepth 100000 in
theorem mf_59 : am_mf am_MT am_mk 59 := ⟨⟨mw_59 _ (List.mem_of_getElem? (i := 0) rfl), mw_59 _ (List.mem_of_getElem? (i := 1) rfl), by decide +kernel, by decide +kernel, by decide⟩, by decide +kernel, fun z => ⟨mw_59 _ (List.mem_of_getElem? (i := 2) rfl), mw_59 _ (List.mem_of_getElem? (i := 3) rfl), 5, _, rfl, rfl, rfl, by decide, by decide⟩, fun z => absurd z (by decide), fun z => absurd z (by decide)⟩
set_option maxRecDepth 100000 in
theorem mw_60 : ∀ w ∈ ([am_cd mt_60, .initialized mt_60.1.cls, .instanceMethod mt_60.1, .selects mt_60.1.cls mt_60.1 mt_60.1] : List Cond), w ∈ am_TB := am_inTB [977, 127, 975, 976] rfl rfl
set_option maxRecDepth 100000 in
theorem mf_60 : am_mf am_MT am_mk 60 := ⟨⟨mw_60 _ (List.mem_of_getElem? (i := 0) rfl), mw_60 _ (List.mem_of_getElem? (i := 1) rfl), by decide +kernel, by decide +kernel, by decide⟩, by decide +kernel, fun z => ⟨mw_60 _ (List.mem_of_getElem? (i := 2) rfl), mw_60 _ (List.mem_of_getElem? (i := 3) rfl), 5, _, rfl, rfl, rfl, by decide, by decide⟩, fun z => absurd z (by decide), fun z => absurd z (by decide)⟩
set_option maxRecDepth 100000 in
theorem mw_61 : ∀ w ∈ ([am_cd mt_61, .initialized mt_61.1.cls, .instanceMethod mt_61.1, .selects mt_61.1.cls mt_61.1 mt_61.1] : List Cond), w ∈ am_TB := am_inTB [981, 127, 979, 980] rfl rfl
set_option maxRecDepth 100000 in
theorem mf_61 : am_mf am_MT am_mk 61 := ⟨⟨mw_61 _ (List.mem_of_getElem? (i := 0) rfl), mw_61 _ (List.mem_of_getElem? (i := 1) rfl), by decide +kernel, by decide +kernel, by decide⟩, by decide +kernel, fun z => ⟨mw_61 _ (List.mem_of_getElem? (i := 2) rfl), mw_61 _ (List.mem_of_getElem? (i := 3) rfl), 5, _, rfl, rfl, rfl, by decide, by decide⟩, fun z => absurd z (by decide), fun z => absurd z (by decide)⟩
set_option maxRecDepth 100000 in
theorem mw_62 : ∀ w ∈ ([am_cd mt_62, .initialized mt_62.1.cls, .instanceMethod mt_62.1, .selects mt_62.1.cls mt_62.1 mt_62.1] : List Cond), w ∈ am_TB := am_inTB [985, 127, 983, 984] rfl rfl
set_option maxRecDepth 100000 in
theorem mf_62 : am_mf am_MT am_mk 62 := ⟨⟨mw_62 _ (List.mem_of_getElem? (i := 0) rfl), mw_62 _ (List.mem_of_getElem? (i := 1) rfl), by decide +kernel, by decide +kernel, by decide⟩, by decide +kernel, fun z => ⟨mw_62 _ (List.mem_of_getElem? (i := 2) rfl), mw_62 _ (List.mem_of_getElem? (i := 3) rfl), 5, _, rfl, rfl, rfl, by decide, by decide⟩, fun z => absurd z (by decide), fun z => absurd z (by decide)⟩
set_option maxRecDepth 100000 in
theorem mw_63 : ∀ w ∈ ([am_cd mt_63, .initialized mt_63.1.cls, .instanceMethod mt_63.1, .selects mt_63.1.cls mt_63.1 mt_63.1] : List Cond), w ∈ am_TB := am_inTB [990, 127, 988, 989] rfl rfl
set_option maxRecDepth 100000 in
theorem mf_63 : am_mf am_MT am_mk 63 := ⟨⟨mw_63 _ (List.mem_of_getElem? (i := 0) rfl), mw_63 _ (List.mem_of_getElem? (i := 1) rfl), by decide +kernel, by decide +kernel, by decide⟩, by decide +kernel, fun z => ⟨mw_63 _ (List.mem_of_getElem? (i := 2) rfl), mw_63 _ (List.mem_of_getElem? (i := 3) rfl), 5, _, rfl, rfl, rfl, by decide, by decide⟩, fun z => absurd z (by decide), fun z => absurd z (by decide)⟩
set_option maxRecDepth 100000 in
theorem mw_64 : ∀ w ∈ ([am_cd mt_64, .initialized mt_64.1.cls, .instanceMethod mt_64.1, .selects mt_64.1.cls mt_64.1 mt_64.1] : List Cond), w ∈ am_TB := am_inTB [998, 127, 997, 35] rfl rfl
set_option maxRecDepth 100000 in
theorem mf_64 : am_mf am_MT am_mk 64 := ⟨⟨mw_64 _ (List.mem_of_getElem? (i := 0) rfl), mw_64 _ (List.mem_of_getElem? (i := 1) rfl), by decide +kernel, by decide +kernel, by decide⟩, by decide +kernel, fun z => ⟨mw_64 _ (List.mem_of_getElem? (i := 2) rfl), mw_64 _ (List.mem_of_getElem? (i := 3) rfl), 5, _, rfl, rfl, rfl, by decide, by decide⟩, fun z => absurd z (by decide), fun z => absurd z (by decide)⟩
set_option maxRecDepth 100000 in
theorem mw_65 : ∀ w ∈ ([am_cd mt_65, .initialized mt_65.1.cls, .instanceMethod mt_65.1, .selects mt_65.1.cls mt_65.1 mt_65.1] : List Cond), w ∈ am_TB := am_inTB [1002, 127, 1001, 36] rfl rfl
set_option maxRecDepth 100000 in
theorem mf_65 : am_mf am_MT am_mk 65 := ⟨⟨mw_65 _ (List.mem_of_getElem? (i := 0) rfl), mw_65 _ (List.mem_of_getElem? (i := 1) rfl), by decide +kernel, by decide +kernel, by decide⟩, by decide +kernel, fun z => ⟨mw_65 _ (List.mem_of_getElem? (i := 2) rfl), mw_65 _ (List.mem_of_getElem? (i := 3) rfl), 5, _, rfl, rfl, rfl, by decide, by decide⟩, fun z => absurd z (by decide), fun z => absurd z (by decide)⟩
set_option maxRecDepth 100000 in
theorem mw_66 : ∀ w ∈ ([am_cd mt_66, .initialized mt_66.1.cls, .instanceMethod mt_66.1, .selects mt_66.1.cls mt_66.1 mt_66.1] : List Cond), w ∈ am_TB := am_inTB [1014, 127, 1012, 1013] rfl rfl
set_option maxRecDepth 100000 in
theorem mf_66 : am_mf am_MT am_mk 66 := ⟨⟨mw_66 _ (List.mem_of_getElem? (i := 0) rfl), mw_66 _ (List.mem_of_getElem? (i := 1) rfl), by decide +kernel, by decide +kernel, by decide⟩, by decide +kernel, fun z => ⟨mw_66 _ (List.mem_of_getElem? (i := 2) rfl), mw_66 _ (List.mem_of_getElem? (i := 3) rfl), 5, _, rfl, rfl, rfl, by decide, by decide⟩, fun z => absurd z (by decide), fun z => absurd z (by decide)⟩
set_option maxRecDepth 100000 in
theorem mw_67 : ∀ w ∈ ([am_cd mt_67, .initialized mt_67.1.cls, .instanceMethod mt_67.1, .selects mt_67.1.cls mt_67.1 mt_67.1] : List Cond), w ∈ am_TB := am_inTB [1023, 127, 1021, 1022] rfl rfl
set_option maxRecDepth 100000 in
theorem mf_67 : am_mf am_MT am_mk 67 := ⟨⟨mw_67 _ (List.mem_of_getElem? (i := 0) rfl), mw_67 _ (List.mem_of_getElem? (i := 1) rfl), by decide +kernel, by decide +kernel, by decide⟩, by decide +kernel, fun z => ⟨mw_67 _ (List.mem_of_getElem? (i := 2) rfl), mw_67 _ (List.mem_of_getElem? (i := 3) rfl), 5, _, rfl, rfl, rfl, by decide, by decide⟩, fun z => absurd z (by decide), fun z => absurd z (by decide)⟩
set_option maxRecDepth 100000 in
theorem mw_68 : ∀ w ∈ ([am_cd mt_68, .initialized mt_68.1.cls, .instanceMethod mt_68.1, .selects mt_68.1.cls mt_68.1 mt_68.1] : List Cond), w ∈ am_TB := am_inTB [1032, 127, 1030, 1031] rfl rfl
set_option maxRecDepth 100000 in
theorem mf_68 : am_mf am_MT am_mk 68 := ⟨⟨mw_68 _ (List.mem_of_getElem? (i := 0) rfl), mw_68 _ (List.mem_of_getElem? (i := 1) rfl), by decide +kernel, by decide +kernel, by decide⟩, by decide +kernel, fun z => ⟨mw_68 _ (List.mem_of_getElem? (i := 2) rfl), mw_68 _ (List.mem_of_getElem? (i := 3) rfl), 5, _, rfl, rfl, rfl, by decide, by decide⟩, fun z => absurd z (by decide), fun z => absurd z (by decide)⟩
set_option maxRecDepth 100000 in
theorem mw_69 : ∀ w ∈ ([am_cd mt_69, .initialized mt_69.1.cls, .instanceMethod mt_69.1, .selects mt_69.1.cls mt_69.1 mt_69.1] : List Cond), w ∈ am_TB := am_inTB [1041, 127, 1039, 1040] rfl rfl
set_option maxRecDepth 100000 in
theorem mf_69 : am_mf am_MT am_mk 69 := ⟨⟨mw_69 _ (List.mem_of_getElem? (i := 0) rfl), mw_69 _ (List.mem_of_getElem? (i := 1) rfl), by decide +kernel, by decide +kernel, by decide⟩, by decide +kernel, fun z => ⟨mw_69 _ (List.mem_of_getElem? (i := 2) rfl), mw_69 _ (List.mem_of_getElem? (i := 3) rfl), 5, _, rfl, rfl, rfl, by decide, by decide⟩, fun z => absurd z (by decide), fun z => absurd z (by decide)⟩
set_option maxRecDepth 100000 in
theorem mw_70 : ∀ w ∈ ([am_cd mt_70, .initialized mt_70.1.cls, .instanceMethod mt_70.1, .selects mt_70.1.cls mt_70.1 mt_70.1] : List Cond), w ∈ am_TB := am_inTB [1295, 127, 1293, 1294] rfl rfl
set_option maxRecDepth 100000 in
theorem mf_70 : am_mf am_MT am_mk 70 := ⟨⟨mw_70 _ (List.mem_of_getElem? (i := 0) rfl), mw_70 _ (List.mem_of_getElem? (i := 1) rfl), by decide +kernel, by decide +kernel, by decide⟩, by decide +kernel, fun z => ⟨mw_70 _ (List.mem_of_getElem? (i := 2) rfl), mw_70 _ (List.mem_of_getElem? (i := 3) rfl), 5, _, rfl, rfl, rfl, by decide, by decide⟩, fun z => absurd z (by decide), fun z => absurd z (by decide)⟩
set_option maxRecDepth 100000 in
theorem mw_71 : ∀ w ∈ ([am_cd mt_71, .initialized mt_71.1.cls, .instanceMethod mt_71.1, .selects mt_71.1.cls mt_71.1 mt_71.1] : List Cond), w ∈ am_TB := am_inTB [1071, 127, 1069, 1070] rfl rfl
set_option maxRecDepth 100000 in
theorem mf_71 : am_mf am_MT am_mk 71 := ⟨⟨mw_71 _ (List.mem_of_getElem? (i := 0) rfl), mw_71 _ (List.mem_of_getElem? (i := 1) rfl), by decide +kernel, by decide +kernel, by decide⟩, by decide +kernel, fun z => ⟨mw_71 _ (List.mem_of_getElem? (i := 2) rfl), mw_71 _ (List.mem_of_getElem? (i := 3) rfl), 5, _, rfl, rfl, rfl, by decide, by decide⟩, fun z => absurd z (by decide), fun z => absurd z (by decide)⟩
set_option maxRecDepth 100000 in
theorem mw_72 : ∀ w ∈ ([am_cd mt_72, .initialized mt_72.1.cls, .instanceMethod mt_72.1, .selects mt_72.1.cls mt_72.1 mt_72.1] : List Cond), w ∈ am_TB := am_inTB [1067, 127, 1065, 1066] rfl rfl
set_option maxRecDepth 100000 in
theorem mf_72 : am_mf am_MT am_mk 72 := ⟨⟨mw_72 _ (List.mem_of_getElem? (i := 0) rfl), mw_72 _ (List.mem_of_getElem? (i := 1) rfl), by decide +kernel, by decide +kernel, by decide⟩, by decide +kernel, fun z => ⟨mw_72 _ (List.mem_of_getElem? (i := 2) rfl), mw_72 _ (List.mem_of_getElem? (i := 3) rfl), 5, _, rfl, rfl, rfl, by decide, by decide⟩, fun z => absurd z (by decide), fun z => absurd z (by decide)⟩
set_option maxRecDepth 100000 in
theorem mw_73 : ∀ w ∈ ([am_cd mt_73, .initialized mt_73.1.cls, .instanceMethod mt_73.1, .selects mt_73.1.cls mt_73.1 mt_73.1] : List Cond), w ∈ am_TB := am_inTB [1268, 127, 1266, 1267] rfl rfl
set_option maxRecDepth 100000 in
theorem mf_73 : am_mf am_MT am_mk 73 := ⟨⟨mw_73 _ (List.mem_of_getElem? (i := 0) rfl), mw_73 _ (List.mem_of_getElem? (i := 1) rfl), by decide +kernel, by decide +kernel, by decide⟩, by decide +kernel, fun z => ⟨mw_73 _ (List.mem_of_getElem? (i := 2) rfl), mw_73 _ (List.mem_of_getElem? (i := 3) rfl), 5, _, rfl, rfl, rfl, by decide, by decide⟩, fun z => absurd z (by decide), fun z => absurd z (by decide)⟩
set_option maxRecDepth 100000 in
theorem mw_74 : ∀ w ∈ ([am_cd mt_74, .initialized mt_74.1.cls, .instanceMethod mt_74.1, .selects mt_74.1.cls mt_74.1 mt_74.1] : List Cond), w ∈ am_TB := am_inTB [1300, 127, 1298, 1299] rfl rfl
set_option maxRecDepth 100000 in
theorem mf_74 : am_mf am_MT am_mk 74 := ⟨⟨mw_74 _ (List.mem_of_getElem? (i := 0) rfl), mw_74 _ (List.mem_of_getElem? (i := 1) rfl), by decide +kernel, by decide +kernel, by decide⟩, by decide +kernel, fun z => ⟨mw_74 _ (List.mem_of_getElem? (i := 2) rfl), mw_74 _ (List.mem_of_getElem? (i := 3) rfl), 5, _, rfl, rfl, rfl, by decide, by decide⟩, fun z => absurd z (by decide), fun z => absurd z (by decide)⟩
set_option maxRecDepth 100000 in
theorem mw_75 : ∀ w ∈ ([am_cd mt_75, .initialized mt_75.1.cls, .instanceMethod mt_75.1] : List Cond), w ∈ am_TB := am_inTB [198, 126, 197] rfl rfl
set_option maxRecDepth 100000 in
theorem mf_75 : am_mf am_MT am_mk 75 := ⟨⟨mw_75 _ (List.mem_of_getElem? (i := 0) rfl), mw_75 _ (List.mem_of_getElem? (i := 1) rfl), by decide +kernel, by decide +kernel, by decide⟩, by decide +kernel, fun z => absurd z (by decide), fun z => absurd z (by decide), fun _ => ⟨mw_75 _ (List.mem_of_getElem? (i := 2) rfl), rfl, rfl⟩⟩
set_option maxRecDepth 100000 in
theorem mw_76 : ∀ w ∈ ([am_cd mt_76, .initialized mt_76.1.cls, .instanceMethod mt_76.1, .selects mt_76.1.cls mt_76.1 mt_76.1] : List Cond), w ∈ am_TB := am_inTB [635, 126, 633, 634] rfl rfl
set_option maxRecDepth 100000 in
theorem mf_76 : am_mf am_MT am_mk 76 := ⟨⟨mw_76 _ (List.mem_of_getElem? (i := 0) rfl), mw_76 _ (List.mem_of_getElem? (i := 1) rfl), by decide +kernel, by decide +kernel, by decide⟩, by decide +kernel, fun z => ⟨mw_76 _ (List.mem_of_getElem? (i := 2) rfl), mw_76 _ (List.mem_of_getElem? (i := 3) rfl), 6, _, rfl, rfl, rfl, by decide, by decide⟩, fun z => absurd z (by decide), fun z => absurd z (by decide)⟩
set_option maxRecDepth 100000 in
theorem mw_77 : ∀ w ∈ ([am_cd mt_77, .initialized mt_77.1.cls, .instanceMethod mt_77.1, .selects mt_77.1.cls mt_77.1 mt_77.1] : List Cond), w ∈ am_TB := am_inTB [878, 126, 876, 877] rfl rfl
set_option maxRecDepth 100000 in
theorem mf_77 : am_mf am_MT am_mk 77 := ⟨⟨mw_77 _ (List.mem_of_getElem? (i := 0) rfl), mw_77 _ (List.mem_of_getElem? (i := 1) rfl), by decide +kernel, by decide +kernel, by decide⟩, by decide +kernel, fun z => ⟨mw_77 _ (List.mem_of_getElem? (i := 2) rfl), mw_77 _ (List.mem_of_getElem? (i := 3) rfl), 6, _, rfl, rfl, rfl, by decide, by decide⟩, fun z => absurd z (by decide), fun z => absurd z (by decide)⟩
set_option maxRecDepth 100000 in
theorem mw_78 : ∀ w ∈ ([am_cd mt_78, .initialized mt_78.1.cls, .instanceMethod mt_78.1, .selects mt_78.1.cls mt_78.1 mt_78.1] : List Cond), w ∈ am_TB := am_inTB [693, 126, 692, 7] rfl rfl
set_option maxRecDepth 100000 in
theorem mf_78 : am_mf am_MT am_mk 78 := ⟨⟨mw_78 _ (List.mem_of_getElem? (i := 0) rfl), mw_78 _ (List.mem_of_getElem? (i := 1) rfl), by decide +kernel, by decide +kernel, by decide⟩, by decide +kernel, fun z => ⟨mw_78 _ (List.mem_of_getElem? (i := 2) rfl), mw_78 _ (List.mem_of_getElem? (i := 3) rfl), 6, _, rfl, rfl, rfl, by decide, by decide⟩, fun z => absurd z (by decide), fun z => absurd z (by decide)⟩
set_option maxRecDepth 100000 in
theorem mw_79 : ∀ w ∈ ([am_cd mt_79, .initialized mt_79.1.cls, .instanceMethod mt_79.1, .selects mt_79.1.cls mt_79.1 mt_79.1] : List Cond), w ∈ am_TB := am_inTB [712, 126, 711, 10] rfl rfl
set_option maxRecDepth 100000 in
theorem mf_79 : am_mf am_MT am_mk 79 := ⟨⟨mw_79 _ (List.mem_of_getElem? (i := 0) rfl), mw_79 _ (List.mem_of_getElem? (i := 1) rfl), by decide +kernel, by decide +kernel, by decide⟩, by decide +kernel, fun z => ⟨mw_79 _ (List.mem_of_getElem? (i := 2) rfl), mw_79 _ (List.mem_of_getElem? (i := 3) rfl), 6, _, rfl, rfl, rfl, by decide, by decide⟩, fun z => absurd z (by decide), fun z => absurd z (by decide)⟩
set_option maxRecDepth 100000 in
theorem mw_80 : ∀ w ∈ ([am_cd mt_80, .initialized mt_80.1.cls, .instanceMethod mt_80.1, .selects mt_80.1.cls mt_80.1 mt_80.1] : List Cond), w ∈ am_TB := am_inTB [720, 126, 719, 12] rfl rfl
set_option maxRecDepth 100000 in
theorem mf_80 : am_mf am_MT am_mk 80 := ⟨⟨mw_80 _ (List.mem_of_getElem? (i := 0) rfl), mw_80 _ (List.mem_of_getElem? (i := 1) rfl), by decide +kernel, by decide +kernel, by decide⟩, by decide +kernel, fun z => ⟨mw_80 _ (List.mem_of_getElem? (i := 2) rfl), mw_80 _ (List.mem_of_getElem? (i := 3) rfl), 6, _, rfl, rfl, rfl, by decide, by decide⟩, fun z => absurd z (by decide), fun z => absurd z (by decide)⟩
set_option maxRecDepth 100000 in
theorem mw_81 : ∀ w ∈ ([am_cd mt_81, .initialized mt_81.1.cls, .instanceMethod mt_81.1, .selects mt_81.1.cls mt_81.1 mt_81.1] : List Cond), w ∈ am_TB := am_inTB [716, 126, 715, 11] rfl rfl
set_option maxRecDepth 100000 in
theorem mf_81 : am_mf am_MT am_mk 81 := ⟨⟨mw_81 _ (List.mem_of_getElem? (i := 0) rfl), mw_81 _ (List.mem_of_getElem? (i := 1) rfl), by decide +kernel, by decide +kernel, by decide⟩, by decide +kernel, fun z => ⟨mw_81 _ (List.mem_of_getElem? (i := 2) rfl), mw_81 _ (List.mem_of_getElem? (i := 3) rfl), 6, _, rfl, rfl, rfl, by decide, by decide⟩, fun z => absurd z (by decide), fun z => absurd z (by decide)⟩
set_option maxRecDepth 100000 in
theorem mw_82 : ∀ w ∈ ([am_cd mt_82, .initialized mt_82.1.cls, .instanceMethod mt_82.1, .selects mt_82.1.cls mt_82.1 mt_82.1] : List Cond), w ∈ am_TB := am_inTB [698, 126, 697, 8] rfl rfl
set_option maxRecDepth 100000 in
theorem mf_82 : am_mf am_MT am_mk 82 := ⟨⟨mw_82 _ (List.mem_of_getElem? (i := 0) rfl), mw_82 _ (List.mem_of_getElem? (i := 1) rfl), by decide +kernel, by decide +kernel, by decide⟩, by decide +kernel, fun z => ⟨mw_82 _ (List.mem_of_getElem? (i := 2) rfl), mw_82 _ (List.mem_of_getElem? (i := 3) rfl), 6, _, rfl, rfl, rfl, by decide, by decide⟩, fun z => absurd z (by decide), fun z => absurd z (by decide)⟩
set_option maxRecDepth 100000 in
theorem mw_83 : ∀ w ∈ ([am_cd mt_83, .initialized mt_83.1.cls, .instanceMethod mt_83.1, .selects mt_83.1.cls mt_83.1 mt_83.1] : List Cond), w ∈ am_TB := am_inTB [730, 126, 729, 14] rfl rfl
set_option maxRecDepth 100000 in
theorem mf_83 : am_mf am_MT am_mk 83 := ⟨⟨mw_83 _ (List.mem_of_getElem? (i := 0) rfl), mw_83 _ (List.mem_of_getElem? (i := 1) rfl), by decide +kernel, by decide +kernel, by decide⟩, by decide +kernel, fun z => ⟨mw_83 _ (List.mem_of_getElem? (i := 2) rfl), mw_83 _ (List.mem_of_getElem? (i := 3) rfl), 6, _, rfl, rfl, rfl, by decide, by decide⟩, fun z => absurd z (by decide), fun z => absurd z (by decide)⟩
set_option maxRecDepth 100000 in
theorem mw_84 : ∀ w ∈ ([am_cd mt_84, .initialized mt_84.1.cls, .instanceMethod mt_84.1, .selects mt_84.1.cls mt_84.1 mt_84.1] : List Cond), w ∈ am_TB := am_inTB [706, 126, 705, 9] rfl rfl
set_option maxRecDepth 100000 in
theorem mf_84 : am_mf am_MT am_mk 84 := ⟨⟨mw_84 _ (List.mem_of_getElem? (i := 0) rfl), mw_84 _ (List.mem_of_getElem? (i := 1) rfl), by decide +kernel, by decide +kernel, by decide⟩, by decide +kernel, fun z => ⟨mw_84 _ (List.mem_of_getElem? (i := 2) rfl), mw_84 _ (List.mem_of_getElem? (i := 3) rfl), 6, _, rfl, rfl, rfl, by decide, by decide⟩, fun z => absurd z (by decide), fun z => absurd z (by decide)⟩
set_option maxRecDepth 100000 in
theorem mw_85 : ∀ w ∈ ([am_cd mt_85, .initialized mt_85.1.cls, .instanceMethod mt_85.1, .selects mt_85.1.cls mt_85.1 mt_85.1] : List Cond), w ∈ am_TB := am_inTB [752, 126, 751, 17] rfl rfl
set_option maxRecDepth 100000 in
theorem mf_85 : am_mf am_MT am_mk 85 := ⟨⟨mw_85 _ (List.mem_of_getElem? (i := 0) rfl), mw_85 _ (List.mem_of_getElem? (i := 1) rfl), by decide +kernel, by decide +kernel, by decide⟩, by decide +kernel, fun z => ⟨mw_85 _ (List.mem_of_getElem? (i := 2) rfl), mw_85 _ (List.mem_of_getElem? (i := 3) rfl), 6, _, rfl, rfl, rfl, by decide, by decide⟩, fun z => absurd z (by decide), fun z => absurd z (by decide)⟩
set_option maxRecDepth 100000 in
theorem mw_86 : ∀ w ∈ ([am_cd mt_86, .initialized mt_86.1.cls, .instanceMethod mt_86.1, .selects mt_86.1.cls mt_86.1 mt_86.1] : List Cond), w ∈ am_TB := am_inTB [683, 126, 682, 5] rfl rfl
set_option maxRecDepth 100000 in
theorem mf_86 : am_mf am_MT am_mk 86 := ⟨⟨mw_86 _ (List.mem_of_getElem? (i := 0) rfl), mw_86 _ (List.mem_of_getElem? (i := 1) rfl), by decide +kernel, by decide +kernel, by decide⟩, by decide +kernel, fun z => ⟨mw_86 _ (List.mem_of_getElem? (i := 2) rfl), mw_86 _ (List.mem_of_getElem? (i := 3) rfl), 6, _, rfl, rfl, rfl, by decide, by decide⟩, fun z => absurd z (by decide), fun z => absurd z (by decide)⟩
set_option maxRecDepth 100000 in
theorem mw_87 : ∀ w ∈ ([am_cd mt_87, .initialized mt_87.1.cls, .instanceMethod mt_87.1, .selects mt_87.1.cls mt_87.1 mt_87.1] : List Cond), w ∈ am_TB := am_inTB [689, 126, 688, 6] rfl rfl
set_option maxRecDepth 100000 in
theorem mf_87 : am_mf am_MT am_mk 87 := ⟨⟨mw_87 _ (List.mem_of_getElem? (i := 0) rfl), mw_87 _ (List.mem_of_getElem? (i := 1) rfl), by decide +kernel, by decide +kernel, by decide⟩, by decide +kernel, fun z => ⟨mw_87 _ (List.mem_of_getElem? (i := 2) rfl), mw_87 _ (List.mem_of_getElem? (i := 3) rfl), 6, _, rfl, rfl, rfl, by decide, by decide⟩, fun z => absurd z (by decide), fun z => absurd z (by decide)⟩
set_option maxRecDepth 100000 in
theorem mw_88 : ∀ w ∈ ([am_cd mt_88, .initialized mt_88.1.cls, .instanceMethod mt_88.1, .selects mt_88.1.cls mt_88.1 mt_88.1] : List Cond), w ∈ am_TB := am_inTB [726, 126, 725, 13] rfl rfl
set_option maxRecDepth 100000 in
theorem mf_88 : am_mf am_MT am_mk 88 := ⟨⟨mw_88 _ (List.mem_of_getElem? (i := 0) rfl), mw_88 _ (List.mem_of_getElem? (i := 1) rfl), by decide +kernel, by decide +kernel, by decide⟩, by decide +kernel, fun z => ⟨mw_88 _ (List.mem_of_getElem? (i := 2) rfl), mw_88 _ (List.mem_of_getElem? (i := 3) rfl), 6, _, rfl, rfl, rfl, by decide, by decide⟩, fun z => absurd z (by decide), fun z => absurd z (by decide)⟩
set_option maxRecDepth 100000 in
theorem mw_89 : ∀ w ∈ ([am_cd mt_89, .initialized mt_89.1.cls, .instanceMethod mt_89.1, .selects mt_89.1.cls mt_89.1 mt_89.1] : List Cond), w ∈ am_TB := am_inTB [734, 126, 733, 15] rfl rfl
set_option maxRecDepth 100000 in
theorem mf_89 : am_mf am_MT am_mk 89 := ⟨⟨mw_89 _ (List.mem_of_getElem? (i := 0) rfl), mw_89 _ (List.mem_of_getElem? (i := 1) rfl), by decide +kernel, by decide +kernel, by decide⟩, by decide +kernel, fun z => ⟨mw_89 _ (List.mem_of_getElem? (i := 2) rfl), mw_89 _ (List.mem_of_getElem? (i := 3) rfl), 6, _, rfl, rfl, rfl, by decide, by decide⟩, fun z => absurd z (by decide), fun z => absurd z (by decide)⟩
set_option maxRecDepth 100000 in
theorem mw_90 : ∀ w ∈ ([am_cd mt_90, .initialized mt_90.1.cls, .instanceMethod mt_90.1, .selects mt_90.1.cls mt_90.1 mt_90.1] : List Cond), w ∈ am_TB := am_inTB [748, 126, 747, 16] rfl rfl
set_option maxRecDepth 100000 in
theorem mf_90 : am_mf am_MT am_mk 90 := ⟨⟨mw_90 _ (List.mem_of_getElem? (i := 0) rfl), mw_90 _ (List.mem_of_getElem? (i := 1) rfl), by decide +kernel, by decide +kernel, by decide⟩, by decide +kernel, fun z => ⟨mw_90 _ (List.mem_of_getElem? (i := 2) rfl), mw_90 _ (List.mem_of_getElem? (i := 3) rfl), 6, _, rfl, rfl, rfl, by decide, by decide⟩, fun z => absurd z (by decide), fun z => absurd z (by decide)⟩
set_option maxRecDepth 100000 in
theorem mw_91 : ∀ w ∈ ([am_cd mt_91, .initialized mt_91.1.cls, .instanceMethod mt_91.1, .selects mt_91.1.cls mt_91.1 mt_91.1] : List Cond), w ∈ am_TB := am_inTB [774, 126, 773, 18] rfl rfl
set_option maxRecDepth 100000 in
theorem mf_91 : am_mf am_MT am_mk 91 := ⟨⟨mw_91 _ (List.mem_of_getElem? (i := 0) rfl), mw_91 _ (List.mem_of_getElem? (i := 1) rfl), by decide +kernel, by decide +kernel, by decide⟩, by decide +kernel, fun z => ⟨mw_91 _ (List.mem_of_getElem? (i := 2) rfl), mw_91 _ (List.mem_of_getElem? (i := 3) rfl), 6, _, rfl, rfl, rfl, by decide, by decide⟩, fun z => absurd z (by decide), fun z => absurd z (by decide)⟩
set_option maxRecDepth 100000 in
theorem mw_92 : ∀ w ∈ ([am_cd mt_92, .initialized mt_92.1.cls, .instanceMethod mt_92.1, .selects mt_92.1.cls mt_92.1 mt_92.1] : List Cond), w ∈ am_TB := am_inTB [780, 126, 779, 19] rfl rfl
set_option maxRecDepth 100000 in
theorem mf_92 : am_mf am_MT am_mk 92 := ⟨⟨mw_92 _ (List.mem_of_getElem? (i := 0) rfl), mw_92 _ (List.mem_of_getElem? (i := 1) rfl), by decide +kernel, by decide +kernel, by decide⟩, by decide +kernel, fun z => ⟨mw_92 _ (List.mem_of_getElem? (i := 2) rfl), mw_92 _ (List.mem_of_getElem? (i := 3) rfl), 6, _, rfl, rfl, rfl, by decide, by decide⟩, fun z => absurd z (by decide), fun z => absurd z (by decide)⟩
set_option maxRecDepth 100000 in
theorem mw_93 : ∀ w ∈ ([am_cd mt_93, .initialized mt_93.1.cls, .instanceMethod mt_93.1, .selects mt_93.1.cls mt_93.1 mt_93.1] : List Cond), w ∈ am_TB := am_inTB [792, 126, 791, 20] rfl rfl
set_option maxRecDepth 100000 in
theorem mf_93 : am_mf am_MT am_mk 93 := ⟨⟨mw_93 _ (List.mem_of_getElem? (i := 0) rfl), mw_93 _ (List.mem_of_getElem? (i := 1) rfl), by decide +kernel, by decide +kernel, by decide⟩, by decide +kernel, fun z => ⟨mw_93 _ (List.mem_of_getElem? (i := 2) rfl), mw_93 _ (List.mem_of_getElem? (i := 3) rfl), 6, _, rfl, rfl, rfl, by decide, by decide⟩, fun z => absurd z (by decide), fun z => absurd z (by decide)⟩
set_option maxRecDepth 100000 in
theorem mw_94 : ∀ w ∈ ([am_cd mt_94, .initialized mt_94.1.cls, .instanceMethod mt_94.1, .selects mt_94.1.cls mt_94.1 mt_94.1] : List Cond), w ∈ am_TB := am_inTB [800, 126, 799, 21] rfl rfl
set_option maxRecDepth 100000 in
theorem mf_94 : am_mf am_MT am_mk 94 := ⟨⟨mw_94 _ (List.mem_of_getElem? (i := 0) rfl), mw_94 _ (List.mem_of_getElem? (i := 1) rfl), by decide +kernel, by decide +kernel, by decide⟩, by decide +kernel, fun z => ⟨mw_94 _ (List.mem_of_getElem? (i := 2) rfl), mw_94 _ (List.mem_of_getElem? (i := 3) rfl), 6, _, rfl, rfl, rfl, by decide, by decide⟩, fun z => absurd z (by decide), fun z => absurd z (by decide)⟩
set_option maxRecDepth 100000 in
theorem mw_95 : ∀ w ∈ ([am_cd mt_95, .initialized mt_95.1.cls, .instanceMethod mt_95.1, .selects mt_95.1.cls mt_95.1 mt_95.1] : List Cond), w ∈ am_TB := am_inTB [808, 126, 807, 22] rfl rfl
set_option maxRecDepth 100000 in
theorem mf_95 : am_mf am_MT am_mk 95 := ⟨⟨mw_95 _ (List.mem_of_getElem? (i := 0) rfl), mw_95 _ (List.mem_of_getElem? (i := 1) rfl), by decide +kernel, by decide +kernel, by decide⟩, by decide +kernel, fun z => ⟨mw_95 _ (List.mem_of_getElem? (i := 2) rfl), mw_95 _ (List.mem_of_getElem? (i := 3) rfl), 6, _, rfl, rfl, rfl, by decide, by decide⟩, fun z => absurd z (by decide), fun z => absurd z (by decide)⟩
set_option maxRecDepth 100000 in
theorem mw_96 : ∀ w ∈ ([am_cd mt_96, .initialized mt_96.1.cls, .instanceMethod mt_96.1, .selects mt_96.1.cls mt_96.1 mt_96.1] : List Cond), w ∈ am_TB := am_inTB [812, 126, 811, 23] rfl rfl
set_option maxRecDepth 100000 in
theorem mf_96 : am_mf am_MT am_mk 96 := ⟨⟨mw_96 _ (List.mem_of_getElem? (i := 0) rfl), mw_96 _ (List.mem_of_getElem? (i := 1) rfl), by decide +kernel, by decide +kernel, by decide⟩, by decide +kernel, fun z => ⟨mw_96 _ (List.mem_of_getElem? (i := 2) rfl), mw_96 _ (List.mem_of_getElem? (i := 3) rfl), 6, _, rfl, rfl, rfl, by decide, by decide⟩, fun z => absurd z (by decide), fun z => absurd z (by decide)⟩
set_option maxRecDepth 100000 in
theorem mw_97 : ∀ w ∈ ([am_cd mt_97, .initialized mt_97.1.cls, .instanceMethod mt_97.1, .selects mt_97.1.cls mt_97.1 mt_97.1] : List Cond), w ∈ am_TB := am_inTB [816, 126, 815, 24] rfl rfl
set_option maxRecDepth 100000 in
theorem mf_97 : am_mf am_MT am_mk 97 := ⟨⟨mw_97 _ (List.mem_of_getElem? (i := 0) rfl), mw_97 _ (List.mem_of_getElem? (i := 1) rfl), by decide +kernel, by decide +kernel, by decide⟩, by decide +kernel, fun z => ⟨mw_97 _ (List.mem_of_getElem? (i := 2) rfl), mw_97 _ (List.mem_of_getElem? (i := 3) rfl), 6, _, rfl, rfl, rfl, by decide, by decide⟩, fun z => absurd z (by decide), fun z => absurd z (by decide)⟩
set_option maxRecDepth 100000 in
theorem mw_98 : ∀ w ∈ ([am_cd mt_98, .initialized mt_98.1.cls, .instanceMethod mt_98.1, .selects mt_98.1.cls mt_98.1 mt_98.1] : List Cond), w ∈ am_TB := am_inTB [820, 126, 819, 25] rfl rfl
set_option maxRecDepth 100000 in
theorem mf_98 : am_mf am_MT am_mk 98 := ⟨⟨mw_98 _ (List.mem_of_getElem? (i := 0) rfl), mw_98 _ (List.mem_of_getElem? (i := 1) rfl), by decide +kernel, by decide +kernel, by decide⟩, by decide +kernel, fun z => ⟨mw_98 _ (List.mem_of_getElem? (i := 2) rfl), mw_98 _ (List.mem_of_getElem? (i := 3) rfl), 6, _, rfl, rfl, rfl, by decide, by decide⟩, fun z => absurd z (by decide), fun z => absurd z (by decide)⟩
set_option maxRecDepth 100000 in
theorem mw_99 : ∀ w ∈ ([am_cd mt_99, .initialized mt_99.1.cls, .instanceMethod mt_99.1, .selects mt_99.1.cls mt_99.1 mt_99.1] : List Cond), w ∈ am_TB := am_inTB [824, 126, 823, 26] rfl rfl
set_option maxRecDepth 100000 in
theorem mf_99 : am_mf am_MT am_mk 99 := ⟨⟨mw_99 _ (List.mem_of_getElem? (i := 0) rfl), mw_99 _ (List.mem_of_getElem? (i := 1) rfl), by decide +kernel, by decide +kernel, by decide⟩, by decide +kernel, fun z => ⟨mw_99 _ (List.mem_of_getElem? (i := 2) rfl), mw_99 _ (List.mem_of_getElem? (i := 3) rfl), 6, _, rfl, rfl, rfl, by decide, by decide⟩, fun z => absurd z (by decide), fun z => absurd z (by decide)⟩
set_option maxRecDepth 100000 in
theorem mw_100 : ∀ w ∈ ([am_cd mt_100, .initialized mt_100.1.cls, .instanceMethod mt_100.1, .selects mt_100.1.cls mt_100.1 mt_100.1] : List Cond), w ∈ am_TB := am_inTB [828, 126, 827, 27] rfl rfl
set_option maxRecDepth 100000 in
theorem mf_100 : am_mf am_MT am_mk 100 := ⟨⟨mw_100 _ (List.mem_of_getElem? (i := 0) rfl), mw_100 _ (List.mem_of_getElem? (i := 1) rfl), by decide +kernel, by decide +kernel, by decide⟩, by decide +kernel, fun z => ⟨mw_100 _ (List.mem_of_getElem? (i := 2) rfl), mw_100 _ (List.mem_of_getElem? (i := 3) rfl), 6, _, rfl, rfl, rfl, by decide, by decide⟩, fun z => absurd z (by decide), fun z => absurd z (by decide)⟩
set_option maxRecDepth 100000 in
theorem mw_101 : ∀ w ∈ ([am_cd mt_101, .initialized mt_101.1.cls, .instanceMethod mt_101.1, .selects mt_101.1.cls mt_101.1 mt_101.1] : List Cond), w ∈ am_TB := am_inTB [882, 126, 881, 30] rfl rfl
set_option maxRecDepth 100000 in
theorem mf_101 : am_mf am_MT am_mk 101 := ⟨⟨mw_101 _ (List.mem_of_getElem? (i := 0) rfl), mw_101 _ (List.mem_of_getElem? (i := 1) rfl), by decide +kernel, by decide +kernel, by decide⟩, by decide +kernel, fun z => ⟨mw_101 _ (List.mem_of_getElem? (i := 2) rfl), mw_101 _ (List.mem_of_getElem? (i := 3) rfl), 6, _, rfl, rfl, rfl, by decide, by decide⟩, fun z => absurd z (by decide), fun z => absurd z (by decide)⟩
set_option maxRecDepth 100000 in
theorem mw_102 : ∀ w ∈ ([am_cd mt_102, .initialized mt_102.1.cls, .instanceMethod mt_102.1, .selects mt_102.1.cls mt_102.1 mt_102.1] : List Cond), w ∈ am_TB := am_inTB [894, 126, 893, 31] rfl rfl
set_option maxRecDepth 100000 in
theorem mf_102 : am_mf am_MT am_mk 102 := ⟨⟨mw_102 _ (List.mem_of_getElem? (i := 0) rfl), mw_102 _ (List.mem_of_getElem? (i := 1) rfl), by decide +kernel, by decide +kernel, by decide⟩, by decide +kernel, fun z => ⟨mw_102 _ (List.mem_of_getElem? (i := 2) rfl), mw_102 _ (List.mem_of_getElem? (i := 3) rfl), 6, _, rfl, rfl, rfl, by decide, by decide⟩, fun z => absurd z (by decide), fun z => absurd z (by decide)⟩
set_option maxRecDepth 100000 in
theorem mw_103 : ∀ w ∈ ([am_cd mt_103, .initialized mt_103.1.cls, .instanceMethod mt_103.1, .selects mt_103.1.cls mt_103.1 mt_103.1] : List Cond), w ∈ am_TB := am_inTB [902, 126, 901, 32] rfl rfl
set_option maxRecDepth 100000 in
theorem mf_103 : am_mf am_MT am_mk 103 := ⟨⟨mw_103 _ (List.mem_of_getElem? (i := 0) rfl), mw_103 _ (List.mem_of_getElem? (i := 1) rfl), by decide +kernel, by decide +kernel, by decide⟩, by decide +kernel, fun z => ⟨mw_103 _ (List.mem_of_getElem? (i := 2) rfl), mw_103 _ (List.mem_of_getElem? (i := 3) rfl), 6, _, rfl, rfl, rfl, by decide, by decide⟩, fun z => absurd z (by decide), fun z => absurd z (by decide)⟩
set_option maxRecDepth 100000 in
theorem mw_104 : ∀ w ∈ ([am_cd mt_104, .initialized mt_104.1.cls, .instanceMethod mt_104.1, .selects mt_104.1.cls mt_104.1 mt_104.1] : List Cond), w ∈ am_TB := am_inTB [906, 126, 905, 33] rfl rfl
set_option maxRecDepth 100000 in
theorem mf_104 : am_mf am_MT am_mk 104 := ⟨⟨mw_104 _ (List.mem_of_getElem? (i := 0) rfl), mw_104 _ (List.mem_of_getElem? (i := 1) rfl), by decide +kernel, by decide +kernel, by decide⟩, by decide +kernel, fun z => ⟨mw_104 _ (List.mem_of_getElem? (i := 2) rfl), mw_104 _ (List.mem_of_getElem? (i := 3) rfl), 6, _, rfl, rfl, rfl, by decide, by decide⟩, fun z => absurd z (by decide), fun z => absurd z (by decide)⟩
set_option maxRecDepth 100000 in
theorem mw_105 : ∀ w ∈ ([am_cd mt_105, .initialized mt_105.1.cls, .instanceMethod mt_105.1, .selects mt_105.1.cls mt_105.1 mt_105.1] : List Cond), w ∈ am_TB := am_inTB [910, 126, 909, 34] rfl rfl
set_option maxRecDepth 100000 in
theorem mf_105 : am_mf am_MT am_mk 105 := ⟨⟨mw_105 _ (List.mem_of_getElem? (i := 0) rfl), mw_105 _ (List.mem_of_getElem? (i := 1) rfl), by decide +kernel, by decide +kernel, by decide⟩, by decide +kernel, fun z => ⟨mw_105 _ (List.mem_of_getElem? (i := 2) rfl), mw_105 _ (List.mem_of_getElem? (i := 3) rfl), 6, _, rfl, rfl, rfl, by decide, by decide⟩, fun z => absurd z (by decide), fun z => absurd z (by decide)⟩
set_option maxRecDepth 100000 in
theorem mw_106 : ∀ w ∈ ([am_cd mt_106, .initialized mt_106.1.cls, .instanceMethod mt_106.1] : List Cond), w ∈ am_TB := am_inTB [251, 129, 250] rfl rfl
set_option maxRecDepth 100000 in
theorem mf_106 : am_mf am_MT am_mk 106 := ⟨⟨mw_106 _ (List.mem_of_getElem? (i := 0) rfl), mw_106 _ (List.mem_of_getElem? (i := 1) rfl), by decide +kernel, by decide +kernel, by decide⟩, by decide +kernel, fun z => absurd z (by decide), fun z => absurd z (by decide), fun _ => ⟨mw_106 _ (List.mem_of_getElem? (i := 2) rfl), rfl, rfl⟩⟩
set_option maxRecDepth 100000 in
theorem mw_107 : ∀ w ∈ ([am_cd mt_107, .initialized mt_107.1.cls, .instanceMethod mt_107.1, .selects mt_107.1.cls mt_107.1 mt_107.1] : List Cond), w ∈ am_TB := am_inTB [867, 129, 865, 866] rfl rfl
set_option maxRecDepth 100000 in
theorem mf_107 : am_mf am_MT am_mk 107 := ⟨⟨mw_107 _ (List.mem_of_getElem? (i := 0) rfl), mw_107 _ (List.mem_of_getElem? (i := 1) rfl), by decide +kernel, by decide +kernel, by decide⟩, by decide +kernel, fun z => ⟨mw_107 _ (List.mem_of_getElem? (i := 2) rfl), mw_107 _ (List.mem_of_getElem? (i := 3) rfl), 7, _, rfl, rfl, rfl, by decide, by decide⟩, fun z => absurd z (by decide), fun z => absurd z (by decide)⟩
set_option maxRecDepth 100000 in
theorem mw_108 : ∀ w ∈ ([am_cd mt_108, .initialized mt_108.1.cls, .instanceMethod mt_108.1, .selects mt_108.1.cls mt_108.1 mt_108.1] : List Cond), w ∈ am_TB := am_inTB [1083, 129, 1081, 1082] rfl rfl
set_option maxRecDepth 100000 in
theorem mf_108 : am_mf am_MT am_mk 108 := ⟨⟨mw_108 _ (List.mem_of_getElem? (i := 0) rfl), mw_108 _ (List.mem_of_getElem? (i := 1) rfl), by decide +kernel, by decide +kernel, by decide⟩, by decide +kernel, fun z => ⟨mw_108 _ (List.mem_of_getElem? (i := 2) rfl), mw_108 _ (List.mem_of_getElem? (i := 3) rfl), 7, _, rfl, rfl, rfl, by decide, by decide⟩, fun z => absurd z (by decide), fun z => absurd z (by decide)⟩
set_option maxRecDepth 100000 in
theorem mw_109 : ∀ w ∈ ([am_cd mt_109, .initialized mt_109.1.cls, .instanceMethod mt_109.1] : List Cond), w ∈ am_TB := am_inTB [446, 131, 445] rfl rfl
set_option maxRecDepth 100000 in
theorem mf_109 : am_mf am_MT am_mk 109 := ⟨⟨mw_109 _ (List.mem_of_getElem? (i := 0) rfl), mw_109 _ (List.mem_of_getElem? (i := 1) rfl), by decide +kernel, by decide +kernel, by decide⟩, by decide +kernel, fun z => absurd z (by decide), fun z => absurd z (by decide), fun _ => ⟨mw_109 _ (List.mem_of_getElem? (i := 2) rfl), rfl, rfl⟩⟩
set_option maxRecDepth 100000 in
theorem mw_110 : ∀ w ∈ ([am_cd mt_110, .initialized mt_110.1.cls, .instanceMethod mt_110.1, .selects mt_110.1.cls mt_110.1 mt_110.1] : List Cond), w ∈ am_TB := am_inTB [1280, 131, 1278, 1279] rfl rfl
set_option maxRecDepth 100000 in
theorem mf_110 : am_mf am_MT am_mk 110 := ⟨⟨mw_110 _ (List.mem_of_getElem? (i := 0) rfl), mw_110 _ (List.mem_of_getElem? (i := 1) rfl), by decide +kernel, by decide +kernel, by decide⟩, by decide +kernel, fun z => ⟨mw_110 _ (List.mem_of_getElem? (i := 2) rfl), mw_110 _ (List.mem_of_getElem? (i := 3) rfl), 8, _, rfl, rfl, rfl, by decide, by decide⟩, fun z => absurd z (by decide), fun z => absurd z (by decide)⟩
set_option maxRecDepth 100000 in
theorem mw_111 : ∀ w ∈ ([am_cd mt_111, .initialized mt_111.1.cls, .instanceMethod mt_111.1] : List Cond), w ∈ am_TB := am_inTB [156, 125, 155] rfl rfl
set_option maxRecDepth 100000 in
theorem mf_111 : am_mf am_MT am_mk 111 := ⟨⟨mw_111 _ (List.mem_of_getElem? (i := 0) rfl), mw_111 _ (List.mem_of_getElem? (i := 1) rfl), by decide +kernel, by decide +kernel, by decide⟩, by decide +kernel, fun z => absurd z (by decide), fun z => absurd z (by decide), fun _ => ⟨mw_111 _ (List.mem_of_getElem? (i := 2) rfl), rfl, rfl⟩⟩
set_option maxRecDepth 100000 in
theorem mw_112 : ∀ w ∈ ([am_cd mt_112, .initialized mt_112.1.cls, .static mt_112.1] : List Cond), w ∈ am_TB := am_inTB [662, 125, 661] rfl rfl
set_option maxRecDepth 100000 in
theorem mf_112 : am_mf am_MT am_mk 112 := ⟨⟨mw_112 _ (List.mem_of_getElem? (i := 0) rfl), mw_112 _ (List.mem_of_getElem? (i := 1) rfl), by decide +kernel, by decide +kernel, by decide⟩, by decide +kernel, fun z => absurd z (by decide), fun _ => mw_112 _ (List.mem_of_getElem? (i := 2) rfl), fun z => absurd z (by decide)⟩
set_option maxRecDepth 100000 in
theorem mw_113 : ∀ w ∈ ([am_cd mt_113, .initialized mt_113.1.cls, .instanceMethod mt_113.1, .selects mt_113.1.cls mt_113.1 mt_113.1] : List Cond), w ∈ am_TB := am_inTB [627, 125, 625, 626] rfl rfl
set_option maxRecDepth 100000 in
theorem mf_113 : am_mf am_MT am_mk 113 := ⟨⟨mw_113 _ (List.mem_of_getElem? (i := 0) rfl), mw_113 _ (List.mem_of_getElem? (i := 1) rfl), by decide +kernel, by decide +kernel, by decide⟩, by decide +kernel, fun z => ⟨mw_113 _ (List.mem_of_getElem? (i := 2) rfl), mw_113 _ (List.mem_of_getElem? (i := 3) rfl), 9, _, rfl, rfl, rfl, by decide, by decide⟩, fun z => absurd z (by decide), fun z => absurd z (by decide)⟩
set_option maxRecDepth 100000 in
theorem mw_114 : ∀ w ∈ ([am_cd mt_114, .initialized mt_114.1.cls, .instanceMethod mt_114.1, .selects mt_114.1.cls mt_114.1 mt_114.1] : List Cond), w ∈ am_TB := am_inTB [644, 125, 642, 643] rfl rfl
set_option maxRecDepth 100000 in
theorem mf_114 : am_mf am_MT am_mk 114 := ⟨⟨mw_114 _ (List.mem_of_getElem? (i := 0) rfl), mw_114 _ (List.mem_of_getElem? (i := 1) rfl), by decide +kernel, by decide +kernel, by decide⟩, by decide +kernel, fun z => ⟨mw_114 _ (List.mem_of_getElem? (i := 2) rfl), mw_114 _ (List.mem_of_getElem? (i := 3) rfl), 9, _, rfl, rfl, rfl, by decide, by decide⟩, fun z => absurd z (by decide), fun z => absurd z (by decide)⟩
set_option maxRecDepth 100000 in
theorem mw_115 : ∀ w ∈ ([am_cd mt_115, .initialized mt_115.1.cls, .instanceMethod mt_115.1, .selects mt_115.1.cls mt_115.1 mt_115.1] : List Cond), w ∈ am_TB := am_inTB [648, 125, 646, 647] rfl rfl
set_option maxRecDepth 100000 in
theorem mf_115 : am_mf am_MT am_mk 115 := ⟨⟨mw_115 _ (List.mem_of_getElem? (i := 0) rfl), mw_115 _ (List.mem_of_getElem? (i := 1) rfl), by decide +kernel, by decide +kernel, by decide⟩, by decide +kernel, fun z => ⟨mw_115 _ (List.mem_of_getElem? (i := 2) rfl), mw_115 _ (List.mem_of_getElem? (i := 3) rfl), 9, _, rfl, rfl, rfl, by decide, by decide⟩, fun z => absurd z (by decide), fun z => absurd z (by decide)⟩
set_option maxRecDepth 100000 in
theorem mw_116 : ∀ w ∈ ([am_cd mt_116, .initialized mt_116.1.cls, .instanceMethod mt_116.1, .selects mt_116.1.cls mt_116.1 mt_116.1] : List Cond), w ∈ am_TB := am_inTB [652, 125, 651, 1] rfl rfl
set_option maxRecDepth 100000 in
theorem mf_116 : am_mf am_MT am_mk 116 := ⟨⟨mw_116 _ (List.mem_of_getElem? (i := 0) rfl), mw_116 _ (List.mem_of_getElem? (i := 1) rfl), by decide +kernel, by decide +kernel, by decide⟩, by decide +kernel, fun z => ⟨mw_116 _ (List.mem_of_getElem? (i := 2) rfl), mw_116 _ (List.mem_of_getElem? (i := 3) rfl), 9, _, rfl, rfl, rfl, by decide, by decide⟩, fun z => absurd z (by decide), fun z => absurd z (by decide)⟩
set_option maxRecDepth 100000 in
theorem mw_117 : ∀ w ∈ ([am_cd mt_117, .initialized mt_117.1.cls, .instanceMethod mt_117.1, .selects mt_117.1.cls mt_117.1 mt_117.1] : List Cond), w ∈ am_TB := am_inTB [659, 125, 658, 2] rfl rfl
set_option maxRecDepth 100000 in
theorem mf_117 : am_mf am_MT am_mk 117 := ⟨⟨mw_117 _ (List.mem_of_getElem? (i := 0) rfl), mw_117 _ (List.mem_of_getElem? (i := 1) rfl), by decide +kernel, by decide +kernel, by decide⟩, by decide +kernel, fun z => ⟨mw_117 _ (List.mem_of_getElem? (i := 2) rfl), mw_117 _ (List.mem_of_getElem? (i := 3) rfl), 9, _, rfl, rfl, rfl, by decide, by decide⟩, fun z => absurd z (by decide), fun z => absurd z (by decide)⟩
set_option maxRecDepth 100000 in
theorem mw_118 : ∀ w ∈ ([am_cd mt_118, .initialized mt_118.1.cls, .instanceMethod mt_118.1, .selects mt_118.1.cls mt_118.1 mt_118.1] : List Cond), w ∈ am_TB := am_inTB [675, 125, 674, 3] rfl rfl
set_option maxRecDepth 100000 in
theorem mf_118 : am_mf am_MT am_mk 118 := ⟨⟨mw_118 _ (List.mem_of_getElem? (i := 0) rfl), mw_118 _ (List.mem_of_getElem? (i := 1) rfl), by decide +kernel, by decide +kernel, by decide⟩, by decide +kernel, fun z => ⟨mw_118 _ (List.mem_of_getElem? (i := 2) rfl), mw_118 _ (List.mem_of_getElem? (i := 3) rfl), 9, _, rfl, rfl, rfl, by decide, by decide⟩, fun z => absurd z (by decide), fun z => absurd z (by decide)⟩
set_option maxRecDepth 100000 in
theorem mw_119 : ∀ w ∈ ([am_cd mt_119, .initialized mt_119.1.cls, .instanceMethod mt_119.1, .selects mt_119.1.cls mt_119.1 mt_119.1] : List Cond), w ∈ am_TB := am_inTB [679, 125, 678, 4] rfl rfl
set_option maxRecDepth 100000 in
theorem mf_119 : am_mf am_MT am_mk 119 := ⟨⟨mw_119 _ (List.mem_of_getElem? (i := 0) rfl), mw_119 _ (List.mem_of_getElem? (i := 1) rfl), by decide +kernel, by decide +kernel, by decide⟩, by decide +kernel, fun z => ⟨mw_119 _ (List.mem_of_getElem? (i := 2) rfl), mw_119 _ (List.mem_of_getElem? (i := 3) rfl), 9, _, rfl, rfl, rfl, by decide, by decide⟩, fun z => absurd z (by decide), fun z => absurd z (by decide)⟩
set_option maxRecDepth 100000 in
theorem mw_120 : ∀ w ∈ ([am_cd mt_120, .initialized mt_120.1.cls, .instanceMethod mt_120.1, .selects mt_120.1.cls mt_120.1 mt_120.1] : List Cond), w ∈ am_TB := am_inTB [702, 125, 700, 701] rfl rfl
set_option maxRecDepth 100000 in
theorem mf_120 : am_mf am_MT am_mk 120 := ⟨⟨mw_120 _ (List.mem_of_getElem? (i := 0) rfl), mw_120 _ (List.mem_of_getElem? (i := 1) rfl), by decide +kernel, by decide +kernel, by decide⟩, by decide +kernel, fun z => ⟨mw_120 _ (List.mem_of_getElem? (i := 2) rfl), mw_120 _ (List.mem_of_getElem? (i := 3) rfl), 9, _, rfl, rfl, rfl, by decide, by decide⟩, fun z => absurd z (by decide), fun z => absurd z (by decide)⟩
set_option maxRecDepth 100000 in
theorem mw_121 : ∀ w ∈ ([am_cd mt_121, .initialized mt_121.1.cls, .static mt_121.1] : List Cond), w ∈ am_TB := am_inTB [655, 125, 654] rfl rfl
set_option maxRecDepth 100000 in
theorem mf_121 : am_mf am_MT am_mk 121 := ⟨⟨mw_121 _ (List.mem_of_getElem? (i := 0) rfl), mw_121 _ (List.mem_of_getElem? (i := 1) rfl), by decide +kernel, by decide +kernel, by decide⟩, by decide +kernel, fun z => absurd z (by decide), fun _ => mw_121 _ (List.mem_of_getElem? (i := 2) rfl), fun z => absurd z (by decide)⟩
set_option maxRecDepth 100000 in
theorem mw_122 : ∀ w ∈ ([am_cd mt_122, .initialized mt_122.1.cls, .static mt_122.1] : List Cond), w ∈ am_TB := am_inTB [671, 125, 670] rfl rfl
set_option maxRecDepth 100000 in
theorem mf_122 : am_mf am_MT am_mk 122 := ⟨⟨mw_122 _ (List.mem_of_getElem? (i := 0) rfl), mw_122 _ (List.mem_of_getElem? (i := 1) rfl), by decide +kernel, by decide +kernel, by decide⟩, by decide +kernel, fun z => absurd z (by decide), fun _ => mw_122 _ (List.mem_of_getElem? (i := 2) rfl), fun z => absurd z (by decide)⟩
set_option maxRecDepth 100000 in
theorem mw_123 : ∀ w ∈ ([am_cd mt_123, .initialized mt_123.1.cls, .static mt_123.1] : List Cond), w ∈ am_TB := am_inTB [666, 137, 665] rfl rfl
set_option maxRecDepth 100000 in
theorem mf_123 : am_mf am_MT am_mk 123 := ⟨⟨mw_123 _ (List.mem_of_getElem? (i := 0) rfl), mw_123 _ (List.mem_of_getElem? (i := 1) rfl), by decide +kernel, by decide +kernel, by decide⟩, by decide +kernel, fun z => absurd z (by decide), fun _ => mw_123 _ (List.mem_of_getElem? (i := 2) rfl), fun z => absurd z (by decide)⟩
set_option maxRecDepth 100000 in
theorem mw_124 : ∀ w ∈ ([am_cd mt_124, .initialized mt_124.1.cls, .instanceMethod mt_124.1] : List Cond), w ∈ am_TB := am_inTB [148, 124, 147] rfl rfl
set_option maxRecDepth 100000 in
theorem mf_124 : am_mf am_MT am_mk 124 := ⟨⟨mw_124 _ (List.mem_of_getElem? (i := 0) rfl), mw_124 _ (List.mem_of_getElem? (i := 1) rfl), by decide +kernel, by decide +kernel, by decide⟩, by decide +kernel, fun z => absurd z (by decide), fun z => absurd z (by decide), fun _ => ⟨mw_124 _ (List.mem_of_getElem? (i := 2) rfl), rfl, rfl⟩⟩
set_option maxRecDepth 100000 in
theorem mw_125 : ∀ w ∈ ([am_cd mt_125, .initialized mt_125.1.cls, .instanceMethod mt_125.1, .selects mt_125.1.cls mt_125.1 mt_125.1] : List Cond), w ∈ am_TB := am_inTB [619, 124, 617, 618] rfl rfl
set_option maxRecDepth 100000 in
theorem mf_125 : am_mf am_MT am_mk 125 := ⟨⟨mw_125 _ (List.mem_of_getElem? (i := 0) rfl), mw_125 _ (List.mem_of_getElem? (i := 1) rfl), by decide +kernel, by decide +kernel, by decide⟩, by decide +kernel, fun z => ⟨mw_125 _ (List.mem_of_getElem? (i := 2) rfl), mw_125 _ (List.mem_of_getElem? (i := 3) rfl), 11, _, rfl, rfl, rfl, by decide, by decide⟩, fun z => absurd z (by decide), fun z => absurd z (by decide)⟩
set_option maxRecDepth 100000 in
theorem mw_126 : ∀ w ∈ ([am_cd mt_126, .initialized mt_126.1.cls, .instanceMethod mt_126.1, .selects mt_126.1.cls mt_126.1 mt_126.1] : List Cond), w ∈ am_TB := am_inTB [623, 124, 622, 0] rfl rfl
set_option maxRecDepth 100000 in
theorem mf_126 : am_mf am_MT am_mk 126 := ⟨⟨mw_126 _ (List.mem_of_getElem? (i := 0) rfl), mw_126 _ (List.mem_of_getElem? (i := 1) rfl), by decide +kernel, by decide +kernel, by decide⟩, by decide +kernel, fun z => ⟨mw_126 _ (List.mem_of_getElem? (i := 2) rfl), mw_126 _ (List.mem_of_getElem? (i := 3) rfl), 11, _, rfl, rfl, rfl, by decide, by decide⟩, fun z => absurd z (by decide), fun z => absurd z (by decide)⟩
set_option maxRecDepth 100000 in
theorem mw_127 : ∀ w ∈ ([am_cd mt_127, .initialized mt_127.1.cls, .instanceMethod mt_127.1, .selects mt_127.1.cls mt_127.1 mt_127.1] : List Cond), w ∈ am_TB := am_inTB [631, 124, 629, 630] rfl rfl
set_option maxRecDepth 100000 in
theorem mf_127 : am_mf am_MT am_mk 127 := ⟨⟨mw_127 _ (List.mem_of_getElem? (i := 0) rfl), mw_127 _ (List.mem_of_getElem? (i := 1) rfl), by decide +kernel, by decide +kernel, by decide⟩, by decide +kernel, fun z => ⟨mw_127 _ (List.mem_of_getElem? (i := 2) rfl), mw_127 _ (List.mem_of_getElem? (i := 3) rfl), 11, _, rfl, rfl, rfl, by decide, by decide⟩, fun z => absurd z (by decide), fun z => absurd z (by decide)⟩
set_option maxRecDepth 100000 in
theorem mw_128 : ∀ w ∈ ([am_cd mt_128, .initialized mt_128.1.cls, .instanceMethod mt_128.1, .selects mt_128.1.cls mt_128.1 mt_128.1] : List Cond), w ∈ am_TB := am_inTB [863, 124, 862, 29] rfl rfl
set_option maxRecDepth 100000 in
theorem mf_128 : am_mf am_MT am_mk 128 := ⟨⟨mw_128 _ (List.mem_of_getElem? (i := 0) rfl), mw_128 _ (List.mem_of_getElem? (i := 1) rfl), by decide +kernel, by decide +kernel, by decide⟩, by decide +kernel, fun z => ⟨mw_128 _ (List.mem_of_getElem? (i := 2) rfl), mw_128 _ (List.mem_of_getElem? (i := 3) rfl), 11, _, rfl, rfl, rfl, by decide, by decide⟩, fun z => absurd z (by decide), fun z => absurd z (by decide)⟩
set_option maxRecDepth 100000 in
theorem mw_129 : ∀ w ∈ ([am_cd mt_129, .initialized mt_129.1.cls, .instanceMethod mt_129.1, .selects mt_129.1.cls mt_129.1 mt_129.1] : List Cond), w ∈ am_TB := am_inTB [874, 124, 872, 873] rfl rfl
set_option maxRecDepth 100000 in
theorem mf_129 : am_mf am_MT am_mk 129 := ⟨⟨mw_129 _ (List.mem_of_getElem? (i := 0) rfl), mw_129 _ (List.mem_of_getElem? (i := 1) rfl), by decide +kernel, by decide +kernel, by decide⟩, by decide +kernel, fun z => ⟨mw_129 _ (List.mem_of_getElem? (i := 2) rfl), mw_129 _ (List.mem_of_getElem? (i := 3) rfl), 11, _, rfl, rfl, rfl, by decide, by decide⟩, fun z => absurd z (by decide), fun z => absurd z (by decide)⟩
set_option maxRecDepth 100000 in
theorem mw_130 : ∀ w ∈ ([am_cd mt_130, .initialized mt_130.1.cls, .instanceMethod mt_130.1, .selects mt_130.1.cls mt_130.1 mt_130.1] : List Cond), w ∈ am_TB := am_inTB [919, 124, 917, 918] rfl rfl
set_option maxRecDepth 100000 in
theorem mf_130 : am_mf am_MT am_mk 130 := ⟨⟨mw_130 _ (List.mem_of_getElem? (i := 0) rfl), mw_130 _ (List.mem_of_getElem? (i := 1) rfl), by decide +kernel, by decide +kernel, by decide⟩, by decide +kernel, fun z => ⟨mw_130 _ (List.mem_of_getElem? (i := 2) rfl), mw_130 _ (List.mem_of_getElem? (i := 3) rfl), 11, _, rfl, rfl, rfl, by decide, by decide⟩, fun z => absurd z (by decide), fun z => absurd z (by decide)⟩
set_option maxRecDepth 100000 in
theorem mw_131 : ∀ w ∈ ([am_cd mt_131, .initialized mt_131.1.cls, .instanceMethod mt_131.1, .selects mt_131.1.cls mt_131.1 mt_131.1] : List Cond), w ∈ am_TB := am_inTB [944, 124, 942, 943] rfl rfl
set_option maxRecDepth 100000 in
theorem mf_131 : am_mf am_MT am_mk 131 := ⟨⟨mw_131 _ (List.mem_of_getElem? (i := 0) rfl), mw_131 _ (List.mem_of_getElem? (i := 1) rfl), by decide +kernel, by decide +kernel, by decide⟩, by decide +kernel, fun z => ⟨mw_131 _ (List.mem_of_getElem? (i := 2) rfl), mw_131 _ (List.mem_of_getElem? (i := 3) rfl), 11, _, rfl, rfl, rfl, by decide, by decide⟩, fun z => absurd z (by decide), fun z => absurd z (by decide)⟩
set_option maxRecDepth 100000 in
theorem mw_132 : ∀ w ∈ ([am_cd mt_132, .initialized mt_132.1.cls, .instanceMethod mt_132.1, .selects mt_132.1.cls mt_132.1 mt_132.1] : List Cond), w ∈ am_TB := am_inTB [952, 124, 950, 951] rfl rfl
set_option maxRecDepth 100000 in
theorem mf_132 : am_mf am_MT am_mk 132 := ⟨⟨mw_132 _ (List.mem_of_getElem? (i := 0) rfl), mw_132 _ (List.mem_of_getElem? (i := 1) rfl), by decide +kernel, by decide +kernel, by decide⟩, by decide +kernel, fun z => ⟨mw_132 _ (List.mem_of_getElem? (i := 2) rfl), mw_132 _ (List.mem_of_getElem? (i := 3) rfl), 11, _, rfl, rfl, rfl, by decide, by decide⟩, fun z => absurd z (by decide), fun z => absurd z (by decide)⟩
set_option maxRecDepth 100000 in
theorem mw_133 : ∀ w ∈ ([am_cd mt_133, .initialized mt_133.1.cls, .instanceMethod mt_133.1, .selects mt_133.1.cls mt_133.1 mt_133.1] : List Cond), w ∈ am_TB := am_inTB [956, 124, 954, 955] rfl rfl
set_option maxRecDepth 100000 in
theorem mf_133 : am_mf am_MT am_mk 133 := ⟨⟨mw_133 _ (List.mem_of_getElem? (i := 0) rfl), mw_133 _ (List.mem_of_getElem? (i := 1) rfl), by decide +kernel, by decide +kernel, by decide⟩, by decide +kernel, fun z => ⟨mw_133 _ (List.mem_of_getElem? (i := 2) rfl), mw_133 _ (List.mem_of_getElem? (i := 3) rfl), 11, _, rfl, rfl, rfl, by decide, by decide⟩, fun z => absurd z (by decide), fun z => absurd z (by decide)⟩
set_option maxRecDepth 100000 in
theorem mw_134 : ∀ w ∈ ([am_cd mt_134, .initialized mt_134.1.cls, .instanceMethod mt_134.1, .selects mt_134.1.cls mt_134.1 mt_134.1] : List Cond), w ∈ am_TB := am_inTB [964, 124, 962, 963] rfl rfl
set_option maxRecDepth 100000 in
theorem mf_134 : am_mf am_MT am_mk 134 := ⟨⟨mw_134 _ (List.mem_of_getElem? (i := 0) rfl), mw_134 _ (List.mem_of_getElem? (i := 1) rfl), by decide +kernel, by decide +kernel, by decide⟩, by decide +kernel, fun z => ⟨mw_134 _ (List.mem_of_getElem? (i := 2) rfl), mw_134 _ (List.mem_of_getElem? (i := 3) rfl), 11, _, rfl, rfl, rfl, by decide, by decide⟩, fun z => absurd z (by decide), fun z => absurd z (by decide)⟩
set_option maxRecDepth 100000 in
theorem mw_135 : ∀ w ∈ ([am_cd mt_135, .initialized mt_135.1.cls, .instanceMethod mt_135.1, .selects mt_135.1.cls mt_135.1 mt_135.1] : List Cond), w ∈ am_TB := am_inTB [969, 124, 967, 968] rfl rfl
set_option maxRecDepth 100000 in
theorem mf_135 : am_mf am_MT am_mk 135 := ⟨⟨mw_135 _ (List.mem_of_getElem? (i := 0) rfl), mw_135 _ (List.mem_of_getElem? (i := 1) rfl), by decide +kernel, by decide +kernel, by decide⟩, by decide +kernel, fun z => ⟨mw_135 _ (List.mem_of_getElem? (i := 2) rfl), mw_135 _ (List.mem_of_getElem? (i := 3) rfl), 11, _, rfl, rfl, rfl, by decide, by decide⟩, fun z => absurd z (by decide), fun z => absurd z (by decide)⟩
set_option maxRecDepth 100000 in
theorem mw_136 : ∀ w ∈ ([am_cd mt_136, .initialized mt_136.1.cls, .instanceMethod mt_136.1, .selects mt_136.1.cls mt_136.1 mt_136.1] : List Cond), w ∈ am_TB := am_inTB [1010, 124, 1008, 1009] rfl rfl
set_option maxRecDepth 100000 in
theorem mf_136 : am_mf am_MT am_mk 136 := ⟨⟨mw_136 _ (List.mem_of_getElem? (i := 0) rfl), mw_136 _ (List.mem_of_getElem? (i := 1) rfl), by decide +kernel, by decide +kernel, by decide⟩, by decide +kernel, fun z => ⟨mw_136 _ (List.mem_of_getElem? (i := 2) rfl), mw_136 _ (List.mem_of_getElem? (i := 3) rfl), 11, _, rfl, rfl, rfl, by decide, by decide⟩, fun z => absurd z (by decide), fun z => absurd z (by decide)⟩
set_option maxRecDepth 100000 in
theorem mw_137 : ∀ w ∈ ([am_cd mt_137, .initialized mt_137.1.cls, .instanceMethod mt_137.1, .selects mt_137.1.cls mt_137.1 mt_137.1] : List Cond), w ∈ am_TB := am_inTB [1019, 124, 1017, 1018] rfl rfl
set_option maxRecDepth 100000 in
theorem mf_137 : am_mf am_MT am_mk 137 := ⟨⟨mw_137 _ (List.mem_of_getElem? (i := 0) rfl), mw_137 _ (List.mem_of_getElem? (i := 1) rfl), by decide +kernel, by decide +kernel, by decide⟩, by decide +kernel, fun z => ⟨mw_137 _ (List.mem_of_getElem? (i := 2) rfl), mw_137 _ (List.mem_of_getElem? (i := 3) rfl), 11, _, rfl, rfl, rfl, by decide, by decide⟩, fun z => absurd z (by decide), fun z => absurd z (by decide)⟩
set_option maxRecDepth 100000 in
theorem mw_138 : ∀ w ∈ ([am_cd mt_138, .initialized mt_138.1.cls, .instanceMethod mt_138.1, .selects mt_138.1.cls mt_138.1 mt_138.1] : List Cond), w ∈ am_TB := am_inTB [1028, 124, 1026, 1027] rfl rfl
set_option maxRecDepth 100000 in
theorem mf_138 : am_mf am_MT am_mk 138 := ⟨⟨mw_138 _ (List.mem_of_getElem? (i := 0) rfl), mw_138 _ (List.mem_of_getElem? (i := 1) rfl), by decide +kernel, by decide +kernel, by decide⟩, by decide +kernel, fun z => ⟨mw_138 _ (List.mem_of_getElem? (i := 2) rfl), mw_138 _ (List.mem_of_getElem? (i := 3) rfl), 11, _, rfl, rfl, rfl, by decide, by decide⟩, fun z => absurd z (by decide), fun z => absurd z (by decide)⟩
set_option maxRecDepth 100000 in
theorem mw_139 : ∀ w ∈ ([am_cd mt_139, .initialized mt_139.1.cls, .instanceMethod mt_139.1, .selects mt_139.1.cls mt_139.1 mt_139.1] : List Cond), w ∈ am_TB := am_inTB [1037, 124, 1035, 1036] rfl rfl
set_option maxRecDepth 100000 in
theorem mf_139 : am_mf am_MT am_mk 139 := ⟨⟨mw_139 _ (List.mem_of_getElem? (i := 0) rfl), mw_139 _ (List.mem_of_getElem? (i := 1) rfl), by decide +kernel, by decide +kernel, by decide⟩, by decide +kernel, fun z => ⟨mw_139 _ (List.mem_of_getElem? (i := 2) rfl), mw_139 _ (List.mem_of_getElem? (i := 3) rfl), 11, _, rfl, rfl, rfl, by decide, by decide⟩, fun z => absurd z (by decide), fun z => absurd z (by decide)⟩
set_option maxRecDepth 100000 in
theorem mw_140 : ∀ w ∈ ([am_cd mt_140, .initialized mt_140.1.cls, .instanceMethod mt_140.1, .selects mt_140.1.cls mt_140.1 mt_140.1] : List Cond), w ∈ am_TB := am_inTB [1006, 124, 1005, 37] rfl rfl
set_option maxRecDepth 100000 in
theorem mf_140 : am_mf am_MT am_mk 140 := ⟨⟨mw_140 _ (List.mem_of_getElem? (i := 0) rfl), mw_140 _ (List.mem_of_getElem? (i := 1) rfl), by decide +kernel, by decide +kernel, by decide⟩, by decide +kernel, fun z => ⟨mw_140 _ (List.mem_of_getElem? (i := 2) rfl), mw_140 _ (List.mem_of_getElem? (i := 3) rfl), 11, _, rfl, rfl, rfl, by decide, by decide⟩, fun z => absurd z (by decide), fun z => absurd z (by decide)⟩
set_option maxRecDepth 100000 in
theorem mw_141 : ∀ w ∈ ([am_cd mt_141, .initialized mt_141.1.cls, .instanceMethod mt_141.1, .selects mt_141.1.cls mt_141.1 mt_141.1] : List Cond), w ∈ am_TB := am_inTB [1045, 124, 1043, 1044] rfl rfl
set_option maxRecDepth 100000 in
theorem mf_141 : am_mf am_MT am_mk 141 := ⟨⟨mw_141 _ (List.mem_of_getElem? (i := 0) rfl), mw_141 _ (List.mem_of_getElem? (i := 1) rfl), by decide +kernel, by decide +kernel, by decide⟩, by decide +kernel, fun z => ⟨mw_141 _ (List.mem_of_getElem? (i := 2) rfl), mw_141 _ (List.mem_of_getElem? (i := 3) rfl), 11, _, rfl, rfl, rfl, by decide, by decide⟩, fun z => absurd z (by decide), fun z => absurd z (by decide)⟩
set_option maxRecDepth 100000 in
theorem mw_142 : ∀ w ∈ ([am_cd mt_142, .initialized mt_142.1.cls, .instanceMethod mt_142.1, .selects mt_142.1.cls mt_142.1 mt_142.1] : List Cond), w ∈ am_TB := am_inTB [1049, 124, 1047, 1048] rfl rfl
set_option maxRecDepth 100000 in
theorem mf_142 : am_mf am_MT am_mk 142 := ⟨⟨mw_142 _ (List.mem_of_getElem? (i := 0) rfl), mw_142 _ (List.mem_of_getElem? (i := 1) rfl), by decide +kernel, by decide +kernel, by decide⟩, by decide +kernel, fun z => ⟨mw_142 _ (List.mem_of_getElem? (i := 2) rfl), mw_142 _ (List.mem_of_getElem? (i := 3) rfl), 11, _, rfl, rfl, rfl, by decide, by decide⟩, fun z => absurd z (by decide), fun z => absurd z (by decide)⟩
set_option maxRecDepth 100000 in
theorem mw_143 : ∀ w ∈ ([am_cd mt_143, .initialized mt_143.1.cls, .instanceMethod mt_143.1, .selects mt_143.1.cls mt_143.1 mt_143.1] : List Cond), w ∈ am_TB := am_inTB [1075, 124, 1073, 1074] rfl rfl
set_option maxRecDepth 100000 in
theorem mf_143 : am_mf am_MT am_mk 143 := ⟨⟨mw_143 _ (List.mem_of_getElem? (i := 0) rfl), mw_143 _ (List.mem_of_getElem? (i := 1) rfl), by decide +kernel, by decide +kernel, by decide⟩, by decide +kernel, fun z => ⟨mw_143 _ (List.mem_of_getElem? (i := 2) rfl), mw_143 _ (List.mem_of_getElem? (i := 3) rfl), 11, _, rfl, rfl, rfl, by decide, by decide⟩, fun z => absurd z (by decide), fun z => absurd z (by decide)⟩
set_option maxRecDepth 100000 in
theorem mw_144 : ∀ w ∈ ([am_cd mt_144, .initialized mt_144.1.cls, .instanceMethod mt_144.1, .selects mt_144.1.cls mt_144.1 mt_144.1] : List Cond), w ∈ am_TB := am_inTB [1088, 124, 1086, 1087] rfl rfl
set_option maxRecDepth 100000 in
theorem mf_144 : am_mf am_MT am_mk 144 := ⟨⟨mw_144 _ (List.mem_of_getElem? (i := 0) rfl), mw_144 _ (List.mem_of_getElem? (i := 1) rfl), by decide +kernel, by decide +kernel, by decide⟩, by decide +kernel, fun z => ⟨mw_144 _ (List.mem_of_getElem? (i := 2) rfl), mw_144 _ (List.mem_of_getElem? (i := 3) rfl), 11, _, rfl, rfl, rfl, by decide, by decide⟩, fun z => absurd z (by decide), fun z => absurd z (by decide)⟩
set_option maxRecDepth 100000 in
theorem mw_145 : ∀ w ∈ ([am_cd mt_145, .initialized mt_145.1.cls, .instanceMethod mt_145.1, .selects mt_145.1.cls mt_145.1 mt_145.1] : List Cond), w ∈ am_TB := am_inTB [1096, 124, 1094, 1095] rfl rfl
set_option maxRecDepth 100000 in
theorem mf_145 : am_mf am_MT am_mk 145 := ⟨⟨mw_145 _ (List.mem_of_getElem? (i := 0) rfl), mw_145 _ (List.mem_of_getElem? (i := 1) rfl), by decide +kernel, by decide +kernel, by decide⟩, by decide +kernel, fun z => ⟨mw_145 _ (List.mem_of_getElem? (i := 2) rfl), mw_145 _ (List.mem_of_getElem? (i := 3) rfl), 11, _, rfl, rfl, rfl, by decide, by decide⟩, fun z => absurd z (by decide), fun z => absurd z (by decide)⟩
set_option maxRecDepth 100000 in
theorem mw_146 : ∀ w ∈ ([am_cd mt_146, .initialized mt_146.1.cls, .instanceMethod mt_146.1, .selects mt_146.1.cls mt_146.1 mt_146.1] : List Cond), w ∈ am_TB := am_inTB [1108, 124, 1106, 1107] rfl rfl
set_option maxRecDepth 100000 in
theorem mf_146 : am_mf am_MT am_mk 146 := ⟨⟨mw_146 _ (List.mem_of_getElem? (i := 0) rfl), mw_146 _ (List.mem_of_getElem? (i := 1) rfl), by decide +kernel, by decide +kernel, by decide⟩, by decide +kernel, fun z => ⟨mw_146 _ (List.mem_of_getElem? (i := 2) rfl), mw_146 _ (List.mem_of_getElem? (i := 3) rfl), 11, _, rfl, rfl, rfl, by decide, by decide⟩, fun z => absurd z (by decide), fun z => absurd z (by decide)⟩
set_option maxRecDepth 100000 in
theorem mw_147 : ∀ w ∈ ([am_cd mt_147, .initialized mt_147.1.cls, .instanceMethod mt_147.1, .selects mt_147.1.cls mt_147.1 mt_147.1] : List Cond), w ∈ am_TB := am_inTB [1126, 124, 1124, 1125] rfl rfl
set_option maxRecDepth 100000 in
theorem mf_147 : am_mf am_MT am_mk 147 := ⟨⟨mw_147 _ (List.mem_of_getElem? (i := 0) rfl), mw_147 _ (List.mem_of_getElem? (i := 1) rfl), by decide +kernel, by decide +kernel, by decide⟩, by decide +kernel, fun z => ⟨mw_147 _ (List.mem_of_getElem? (i := 2) rfl), mw_147 _ (List.mem_of_getElem? (i := 3) rfl), 11, _, rfl, rfl, rfl, by decide, by decide⟩, fun z => absurd z (by decide), fun z => absurd z (by decide)⟩
set_option maxRecDepth 100000 in
theorem mw_148 : ∀ w ∈ ([am_cd mt_148, .initialized mt_148.1.cls, .instanceMethod mt_148.1, .selects mt_148.1.cls mt_148.1 mt_148.1] : List Cond), w ∈ am_TB := am_inTB [1134, 124, 1132, 1133] rfl rfl
set_option maxRecDepth 100000 in
theorem mf_148 : am_mf am_MT am_mk 148 := ⟨⟨mw_148 _ (List.mem_of_getElem? (i := 0) rfl), mw_148 _ (List.mem_of_getElem? (i := 1) rfl), by decide +kernel, by decide +kernel, by decide⟩, by decide +kernel, fun z => ⟨mw_148 _ (List.mem_of_getElem? (i := 2) rfl), mw_148 _ (List.mem_of_getElem? (i := 3) rfl), 11, _, rfl, rfl, rfl, by decide, by decide⟩, fun z => absurd z (by decide), fun z => absurd z (by decide)⟩
set_option maxRecDepth 100000 in
theorem mw_149 : ∀ w ∈ ([am_cd mt_149, .initialized mt_149.1.cls, .instanceMethod mt_149.1, .selects mt_149.1.cls mt_149.1 mt_149.1] : List Cond), w ∈ am_TB := am_inTB [1149, 124, 1147, 1148] rfl rfl
set_option maxRecDepth 100000 in
theorem mf_149 : am_mf am_MT am_mk 149 := ⟨⟨mw_149 _ (List.mem_of_getElem? (i := 0) rfl), mw_149 _ (List.mem_of_getElem? (i := 1) rfl), by decide +kernel, by decide +kernel, by decide⟩, by decide +kernel, fun z => ⟨mw_149 _ (List.mem_of_getElem? (i := 2) rfl), mw_149 _ (List.mem_of_getElem? (i := 3) rfl), 11, _, rfl, rfl, rfl, by decide, by decide⟩, fun z => absurd z (by decide), fun z => absurd z (by decide)⟩
set_option maxRecDepth 100000 in
theorem mw_150 : ∀ w ∈ ([am_cd mt_150, .initialized mt_150.1.cls, .instanceMethod mt_150.1, .selects mt_150.1.cls mt_150.1 mt_150.1] : List Cond), w ∈ am_TB := am_inTB [1169, 124, 1167, 1168] rfl rfl
set_option maxRecDepth 100000 in
theorem mf_150 : am_mf am_MT am_mk 150 := ⟨⟨mw_150 _ (List.mem_of_getElem? (i := 0) rfl), mw_150 _ (List.mem_of_getElem? (i := 1) rfl), by decide +kernel, by decide +kernel, by decide⟩, by decide +kernel, fun z => ⟨mw_150 _ (List.mem_of_getElem? (i := 2) rfl), mw_150 _ (List.mem_of_getElem? (i := 3) rfl), 11, _, rfl, rfl, rfl, by decide, by decide⟩, fun z => absurd z (by decide), fun z => absurd z (by decide)⟩
set_option maxRecDepth 100000 in
theorem mw_151 : ∀ w ∈ ([am_cd mt_151, .initialized mt_151.1.cls, .instanceMethod mt_151.1, .selects mt_151.1.cls mt_151.1 mt_151.1] : List Cond), w ∈ am_TB := am_inTB [1187, 124, 1185, 1186] rfl rfl
set_option maxRecDepth 100000 in
theorem mf_151 : am_mf am_MT am_mk 151 := ⟨⟨mw_151 _ (List.mem_of_getElem? (i := 0) rfl), mw_151 _ (List.mem_of_getElem? (i := 1) rfl), by decide +kernel, by decide +kernel, by decide⟩, by decide +kernel, fun z => ⟨mw_151 _ (List.mem_of_getElem? (i := 2) rfl), mw_151 _ (List.mem_of_getElem? (i := 3) rfl), 11, _, rfl, rfl, rfl, by decide, by decide⟩, fun z => absurd z (by decide), fun z => absurd z (by decide)⟩
set_option maxRecDepth 100000 in
theorem mw_152 : ∀ w ∈ ([am_cd mt_152, .initialized mt_152.1.cls, .instanceMethod mt_152.1, .selects mt_152.1.cls mt_152.1 mt_152.1] : List Cond), w ∈ am_TB := am_inTB [1195, 124, 1193, 1194] rfl rfl
set_option maxRecDepth 100000 in
theorem mf_152 : am_mf am_MT am_mk 152 := ⟨⟨mw_152 _ (List.mem_of_getElem? (i := 0) rfl), mw_152 _ (List.mem_of_getElem? (i := 1) rfl), by decide +kernel, by decide +kernel, by decide⟩, by decide +kernel, fun z => ⟨mw_152 _ (List.mem_of_getElem? (i := 2) rfl), mw_152 _ (List.mem_of_getElem? (i := 3) rfl), 11, _, rfl, rfl, rfl, by decide, by decide⟩, fun z => absurd z (by decide), fun z => absurd z (by decide)⟩
set_option maxRecDepth 100000 in
theorem mw_153 : ∀ w ∈ ([am_cd mt_153, .initialized mt_153.1.cls, .instanceMethod mt_153.1, .selects mt_153.1.cls mt_153.1 mt_153.1] : List Cond), w ∈ am_TB := am_inTB [1215, 124, 1213, 1214] rfl rfl
set_option maxRecDepth 100000 in
theorem mf_153 : am_mf am_MT am_mk 153 := ⟨⟨mw_153 _ (List.mem_of_getElem? (i := 0) rfl), mw_153 _ (List.mem_of_getElem? (i := 1) rfl), by decide +kernel, by decide +kernel, by decide⟩, by decide +kernel, fun z => ⟨mw_153 _ (List.mem_of_getElem? (i := 2) rfl), mw_153 _ (List.mem_of_getElem? (i := 3) rfl), 11, _, rfl, rfl, rfl, by decide, by decide⟩, fun z => absurd z (by decide), fun z => absurd z (by decide)⟩
set_option maxRecDepth 100000 in
theorem mw_154 : ∀ w ∈ ([am_cd mt_154, .initialized mt_154.1.cls, .instanceMethod mt_154.1, .selects mt_154.1.cls mt_154.1 mt_154.1] : List Cond), w ∈ am_TB := am_inTB [1235, 124, 1233, 1234] rfl rfl
set_option maxRecDepth 100000 in
theorem mf_154 : am_mf am_MT am_mk 154 := ⟨⟨mw_154 _ (List.mem_of_getElem? (i := 0) rfl), mw_154 _ (List.mem_of_getElem? (i := 1) rfl), by decide +kernel, by decide +kernel, by decide⟩, by decide +kernel, fun z => ⟨mw_154 _ (List.mem_of_getElem? (i := 2) rfl), mw_154 _ (List.mem_of_getElem? (i := 3) rfl), 11, _, rfl, rfl, rfl, by decide, by decide⟩, fun z => absurd z (by decide), fun z => absurd z (by decide)⟩
set_option maxRecDepth 100000 in
theorem mw_156 : ∀ w ∈ ([am_cd mt_156, .initialized mt_156.1.cls, .instanceMethod mt_156.1, .selects mt_156.1.cls mt_156.1 mt_156.1] : List Cond), w ∈ am_TB := am_inTB [1248, 124, 1246, 1247] rfl rfl
set_option maxRecDepth 100000 in
theorem mf_156 : am_mf am_MT am_mk 156 := ⟨⟨mw_156 _ (List.mem_of_getElem? (i := 0) rfl), mw_156 _ (List.mem_of_getElem? (i := 1) rfl), by decide +kernel, by decide +kernel, by decide⟩, by decide +kernel, fun z => ⟨mw_156 _ (List.mem_of_getElem? (i := 2) rfl), mw_156 _ (List.mem_of_getElem? (i := 3) rfl), 11, _, rfl, rfl, rfl, by decide, by decide⟩, fun z => absurd z (by decide), fun z => absurd z (by decide)⟩
set_option maxRecDepth 100000 in
theorem mw_157 : ∀ w ∈ ([am_cd mt_157, .initialized mt_157.1.cls, .instanceMethod mt_157.1, .selects mt_157.1.cls mt_157.1 mt_157.1] : List Cond), w ∈ am_TB := am_inTB [1276, 124, 1274, 1275] rfl rfl
set_option maxRecDepth 100000 in
theorem mf_157 : am_mf am_MT am_mk 157 := ⟨⟨mw_157 _ (List.mem_of_getElem? (i := 0) rfl), mw_157 _ (List.mem_of_getElem? (i := 1) rfl), by decide +kernel, by decide +kernel, by decide⟩, by decide +kernel, fun z => ⟨mw_157 _ (List.mem_of_getElem? (i := 2) rfl), mw_157 _ (List.mem_of_getElem? (i := 3) rfl), 11, _, rfl, rfl, rfl, by decide, by decide⟩, fun z => absurd z (by decide), fun z => absurd z (by decide)⟩
set_option maxRecDepth 100000 in
theorem mw_158 : ∀ w ∈ ([am_cd mt_158, .initialized mt_158.1.cls, .instanceMethod mt_158.1, .selects mt_158.1.cls mt_158.1 mt_158.1] : List Cond), w ∈ am_TB := am_inTB [1291, 124, 1289, 1290] rfl rfl
set_option maxRecDepth 100000 in
theorem mf_158 : am_mf am_MT am_mk 158 := ⟨⟨mw_158 _ (List.mem_of_getElem? (i := 0) rfl), mw_158 _ (List.mem_of_getElem? (i := 1) rfl), by decide +kernel, by decide +kernel, by decide⟩, by decide +kernel, fun z => ⟨mw_158 _ (List.mem_of_getElem? (i := 2) rfl), mw_158 _ (List.mem_of_getElem? (i := 3) rfl), 11, _, rfl, rfl, rfl, by decide, by decide⟩, fun z => absurd z (by decide), fun z => absurd z (by decide)⟩
set_option maxRecDepth 100000 in
theorem mw_159 : ∀ w ∈ ([am_cd mt_159, .initialized mt_159.1.cls, .instanceMethod mt_159.1] : List Cond), w ∈ am_TB := am_inTB [1386, 135, 1385] rfl rfl
set_option maxRecDepth 100000 in
theorem mf_159 : am_mf am_MT am_mk 159 := ⟨⟨mw_159 _ (List.mem_of_getElem? (i := 0) rfl), mw_159 _ (List.mem_of_getElem? (i := 1) rfl), by decide +kernel, by decide +kernel, by decide⟩, by decide +kernel, fun z => absurd z (by decide), fun z => absurd z (by decide), fun _ => ⟨mw_159 _ (List.mem_of_getElem? (i := 2) rfl), rfl, rfl⟩⟩
set_option maxRecDepth 100000 in
theorem mw_160 : ∀ w ∈ ([am_cd mt_160, .initialized mt_160.1.cls, .instanceMethod mt_160.1, .selects mt_160.1.cls mt_160.1 mt_160.1] : List Cond), w ∈ am_TB := am_inTB [1638, 135, 1636, 1637] rfl rfl
set_option maxRecDepth 100000 in
theorem mf_160 : am_mf am_MT am_mk 160 := ⟨⟨mw_160 _ (List.mem_of_getElem? (i := 0) rfl), mw_160 _ (List.mem_of_getElem? (i := 1) rfl), by decide +kernel, by decide +kernel, by decide⟩, by decide +kernel, fun z => ⟨mw_160 _ (List.mem_of_getElem? (i := 2) rfl), mw_160 _ (List.mem_of_getElem? (i := 3) rfl), 12, _, rfl, rfl, rfl, by decide, by decide⟩, fun z => absurd z (by decide), fun z => absurd z (by decide)⟩
set_option maxRecDepth 100000 in
theorem mw_161 : ∀ w ∈ ([am_cd mt_161, .initialized mt_161.1.cls, .static mt_161.1] : List Cond), w ∈ am_TB := am_inTB [1742, 135, 1741] rfl rfl
set_option maxRecDepth 100000 in
theorem mf_161 : am_mf am_MT am_mk 161 := ⟨⟨mw_161 _ (List.mem_of_getElem? (i := 0) rfl), mw_161 _ (List.mem_of_getElem? (i := 1) rfl), by decide +kernel, by decide +kernel, by decide⟩, by decide +kernel, fun z => absurd z (by decide), fun _ => mw_161 _ (List.mem_of_getElem? (i := 2) rfl), fun z => absurd z (by decide)⟩
set_option maxRecDepth 100000 in
theorem mw_162 : ∀ w ∈ ([am_cd mt_162, .initialized mt_162.1.cls, .static mt_162.1] : List Cond), w ∈ am_TB := am_inTB [1861, 135, 1860] rfl rfl
set_option maxRecDepth 100000 in
theorem mf_162 : am_mf am_MT am_mk 162 := ⟨⟨mw_162 _ (List.mem_of_getElem? (i := 0) rfl), mw_162 _ (List.mem_of_getElem? (i := 1) rfl), by decide +kernel, by decide +kernel, by decide⟩, by decide +kernel, fun z => absurd z (by decide), fun _ => mw_162 _ (List.mem_of_getElem? (i := 2) rfl), fun z => absurd z (by decide)⟩
set_option maxRecDepth 100000 in
theorem mw_163 : ∀ w ∈ ([am_cd mt_163, .initialized mt_163.1.cls, .static mt_163.1] : List Cond), w ∈ am_TB := am_inTB [2016, 135, 2015] rfl rfl
set_option maxRecDepth 100000 in
theorem mf_163 : am_mf am_MT am_mk 163 := ⟨⟨mw_163 _ (List.mem_of_getElem? (i := 0) rfl), mw_163 _ (List.mem_of_getElem? (i := 1) rfl), by decide +kernel, by decide +kernel, by decide⟩, by decide +kernel, fun z => absurd z (by decide), fun _ => mw_163 _ (List.mem_of_getElem? (i := 2) rfl), fun z => absurd z (by decide)⟩
set_option maxRecDepth 100000 in
theorem mw_164 : ∀ w ∈ ([am_cd mt_164, .initialized mt_164.1.cls, .instanceMethod mt_164.1, .selects mt_164.1.cls mt_164.1 mt_164.1] : List Cond), w ∈ am_TB := am_inTB [1642, 135, 1640, 1641] rfl rfl
set_option maxRecDepth 100000 in
theorem mf_164 : am_mf am_MT am_mk 164 := ⟨⟨mw_164 _ (List.mem_of_getElem? (i := 0) rfl), mw_164 _ (List.mem_of_getElem? (i := 1) rfl), by decide +kernel, by decide +kernel, by decide⟩, by decide +kernel, fun z => ⟨mw_164 _ (List.mem_of_getElem? (i := 2) rfl), mw_164 _ (List.mem_of_getElem? (i := 3) rfl), 12, _, rfl, rfl, rfl, by decide, by decide⟩, fun z => absurd z (by decide), fun z => absurd z (by decide)⟩
set_option maxRecDepth 100000 in
theorem mw_165 : ∀ w ∈ ([am_cd mt_165, .initialized mt_165.1.cls, .instanceMethod mt_165.1, .selects mt_165.1.cls mt_165.1 mt_165.1] : List Cond), w ∈ am_TB := am_inTB [1663, 135, 1662, 57] rfl rfl
set_option maxRecDepth 100000 in
theorem mf_165 : am_mf am_MT am_mk 165 := ⟨⟨mw_165 _ (List.mem_of_getElem? (i := 0) rfl), mw_165 _ (List.mem_of_getElem? (i := 1) rfl), by decide +kernel, by decide +kernel, by decide⟩, by decide +kernel, fun z => ⟨mw_165 _ (List.mem_of_getElem? (i := 2) rfl), mw_165 _ (List.mem_of_getElem? (i := 3) rfl), 12, _, rfl, rfl, rfl, by decide, by decide⟩, fun z => absurd z (by decide), fun z => absurd z (by decide)⟩
set_option maxRecDepth 100000 in
theorem mw_166 : ∀ w ∈ ([am_cd mt_166, .initialized mt_166.1.cls, .instanceMethod mt_166.1, .selects mt_166.1.cls mt_166.1 mt_166.1] : List Cond), w ∈ am_TB := am_inTB [1659, 135, 1658, 56] rfl rfl
set_option maxRecDepth 100000 in
theorem mf_166 : am_mf am_MT am_mk 166 := ⟨⟨mw_166 _ (List.mem_of_getElem? (i := 0) rfl), mw_166 _ (List.mem_of_getElem? (i := 1) rfl), by decide +kernel, by decide +kernel, by decide⟩, by decide +kernel, fun z => ⟨mw_166 _ (List.mem_of_getElem? (i := 2) rfl), mw_166 _ (List.mem_of_getElem? (i := 3) rfl), 12, _, rfl, rfl, rfl, by decide, by decide⟩, fun z => absurd z (by decide), fun z => absurd z (by decide)⟩
set_option maxRecDepth 100000 in
theorem mw_167 : ∀ w ∈ ([am_cd mt_167, .initialized mt_167.1.cls, .instanceMethod mt_167.1, .selects mt_167.1.cls mt_167.1 mt_167.1] : List Cond), w ∈ am_TB := am_inTB [1670, 135, 1669, 58] rfl rfl
set_option maxRecDepth 100000 in
theorem mf_167 : am_mf am_MT am_mk 167 := ⟨⟨mw_167 _ (List.mem_of_getElem? (i := 0) rfl), mw_167 _ (List.mem_of_getElem? (i := 1) rfl), by decide +kernel, by decide +kernel, by decide⟩, by decide +kernel, fun z => ⟨mw_167 _ (List.mem_of_getElem? (i := 2) rfl), mw_167 _ (List.mem_of_getElem? (i := 3) rfl), 12, _, rfl, rfl, rfl, by decide, by decide⟩, fun z => absurd z (by decide), fun z => absurd z (by decide)⟩
set_option maxRecDepth 100000 in
theorem mw_168 : ∀ w ∈ ([am_cd mt_168, .initialized mt_168.1.cls, .instanceMethod mt_168.1, .selects mt_168.1.cls mt_168.1 mt_168.1] : List Cond), w ∈ am_TB := am_inTB [1750, 135, 1749, 70] rfl rfl
set_option maxRecDepth 100000 in
theorem mf_168 : am_mf am_MT am_mk 168 := ⟨⟨mw_168 _ (List.mem_of_getElem? (i := 0) rfl), mw_168 _ (List.mem_of_getElem? (i := 1) rfl), by decide +kernel, by decide +kernel, by decide⟩, by decide +kernel, fun z => ⟨mw_168 _ (List.mem_of_getElem? (i := 2) rfl), mw_168 _ (List.mem_of_getElem? (i := 3) rfl), 12, _, rfl, rfl, rfl, by decide, by decide⟩, fun z => absurd z (by decide), fun z => absurd z (by decide)⟩
set_option maxRecDepth 100000 in
theorem mw_169 : ∀ w ∈ ([am_cd mt_169, .initialized mt_169.1.cls, .instanceMethod mt_169.1, .selects mt_169.1.cls mt_169.1 mt_169.1] : List Cond), w ∈ am_TB := am_inTB [1678, 135, 1677, 60] rfl rfl
set_option maxRecDepth 100000 in
theorem mf_169 : am_mf am_MT am_mk 169 := ⟨⟨mw_169 _ (List.mem_of_getElem? (i := 0) rfl), mw_169 _ (List.mem_of_getElem? (i := 1) rfl), by decide +kernel, by decide +kernel, by decide⟩, by decide +kernel, fun z => ⟨mw_169 _ (List.mem_of_getElem? (i := 2) rfl), mw_169 _ (List.mem_of_getElem? (i := 3) rfl), 12, _, rfl, rfl, rfl, by decide, by decide⟩, fun z => absurd z (by decide), fun z => absurd z (by decide)⟩
set_option maxRecDepth 100000 in
theorem mw_170 : ∀ w ∈ ([am_cd mt_170, .initialized mt_170.1.cls, .instanceMethod mt_170.1, .selects mt_170.1.cls mt_170.1 mt_170.1] : List Cond), w ∈ am_TB := am_inTB [1798, 135, 1797, 81] rfl rfl
set_option maxRecDepth 100000 in
theorem mf_170 : am_mf am_MT am_mk 170 := ⟨⟨mw_170 _ (List.mem_of_getElem? (i := 0) rfl), mw_170 _ (List.mem_of_getElem? (i := 1) rfl), by decide +kernel, by decide +kernel, by decide⟩, by decide +kernel, fun z => ⟨mw_170 _ (List.mem_of_getElem? (i := 2) rfl), mw_170 _ (List.mem_of_getElem? (i := 3) rfl), 12, _, rfl, rfl, rfl, by decide, by decide⟩, fun z => absurd z (by decide), fun z => absurd z (by decide)⟩
set_option maxRecDepth 100000 in
theorem mw_171 : ∀ w ∈ ([am_cd mt_171, .initialized mt_171.1.cls, .instanceMethod mt_171.1, .selects mt_171.1.cls mt_171.1 mt_171.1] : List Cond), w ∈ am_TB := am_inTB [1790, 135, 1789, 80] rfl rfl
set_option maxRecDepth 100000 in
theorem mf_171 : am_mf am_MT am_mk 171 := ⟨⟨mw_171 _ (List.mem_of_getElem? (i := 0) rfl), mw_171 _ (List.mem_of_getElem? (i := 1) rfl), by decide +kernel, by decide +kernel, by decide⟩, by decide +kernel, fun z => ⟨mw_171 _ (List.mem_of_getElem? (i := 2) rfl), mw_171 _ (List.mem_of_getElem? (i := 3) rfl), 12, _, rfl, rfl, rfl, by decide, by decide⟩, fun z => absurd z (by decide), fun z => absurd z (by decide)⟩
set_option maxRecDepth 100000 in
theorem mw_172 : ∀ w ∈ ([am_cd mt_172, .initialized mt_172.1.cls, .instanceMethod mt_172.1, .selects mt_172.1.cls mt_172.1 mt_172.1] : List Cond), w ∈ am_TB := am_inTB [1786, 135, 1785, 79] rfl rfl
set_option maxRecDepth 100000 in
theorem mf_172 : am_mf am_MT am_mk 172 := ⟨⟨mw_172 _ (List.mem_of_getElem? (i := 0) rfl), mw_172 _ (List.mem_of_getElem? (i := 1) rfl), by decide +kernel, by decide +kernel, by decide⟩, by decide +kernel, fun z => ⟨mw_172 _ (List.mem_of_getElem? (i := 2) rfl), mw_172 _ (List.mem_of_getElem? (i := 3) rfl), 12, _, rfl, rfl, rfl, by decide, by decide⟩, fun z => absurd z (by decide), fun z => absurd z (by decide)⟩
set_option maxRecDepth 100000 in
theorem mw_173 : ∀ w ∈ ([am_cd mt_173, .initialized mt_173.1.cls, .instanceMethod mt_173.1, .selects mt_173.1.cls mt_173.1 mt_173.1] : List Cond), w ∈ am_TB := am_inTB [1850, 135, 1849, 90] rfl rfl
set_option maxRecDepth 100000 in
theorem mf_173 : am_mf am_MT am_mk 173 := ⟨⟨mw_173 _ (List.mem_of_getElem? (i := 0) rfl), mw_173 _ (List.mem_of_getElem? (i := 1) rfl), by decide +kernel, by decide +kernel, by decide⟩, by decide +kernel, fun z => ⟨mw_173 _ (List.mem_of_getElem? (i := 2) rfl), mw_173 _ (List.mem_of_getElem? (i := 3) rfl), 12, _, rfl, rfl, rfl, by decide, by decide⟩, fun z => absurd z (by decide), fun z => absurd z (by decide)⟩
set_option maxRecDepth 100000 in
theorem mw_174 : ∀ w ∈ ([am_cd mt_174, .initialized mt_174.1.cls, .instanceMethod mt_174.1, .selects mt_174.1.cls mt_174.1 mt_174.1] : List Cond), w ∈ am_TB := am_inTB [1854, 135, 1853, 91] rfl rfl
set_option maxRecDepth 100000 in
theorem mf_174 : am_mf am_MT am_mk 174 := ⟨⟨mw_174 _ (List.mem_of_getElem? (i := 0) rfl), mw_174 _ (List.mem_of_getElem? (i := 1) rfl), by decide +kernel, by decide +kernel, by decide⟩, by decide +kernel, fun z => ⟨mw_174 _ (List.mem_of_getElem? (i := 2) rfl), mw_174 _ (List.mem_of_getElem? (i := 3) rfl), 12, _, rfl, rfl, rfl, by decide, by decide⟩, fun z => absurd z (by decide), fun z => absurd z (by decide)⟩
set_option maxRecDepth 100000 in
theorem mw_175 : ∀ w ∈ ([am_cd mt_175, .initialized mt_175.1.cls, .instanceMethod mt_175.1, .selects mt_175.1.cls mt_175.1 mt_175.1] : List Cond), w ∈ am_TB := am_inTB [1858, 135, 1857, 92] rfl rfl
set_option maxRecDepth 100000 in
theorem mf_175 : am_mf am_MT am_mk 175 := ⟨⟨mw_175 _ (List.mem_of_getElem? (i := 0) rfl), mw_175 _ (List.mem_of_getElem? (i := 1) rfl), by decide +kernel, by decide +kernel, by decide⟩, by decide +kernel, fun z => ⟨mw_175 _ (List.mem_of_getElem? (i := 2) rfl), mw_175 _ (List.mem_of_getElem? (i := 3) rfl), 12, _, rfl, rfl, rfl, by decide, by decide⟩, fun z => absurd z (by decide), fun z => absurd z (by decide)⟩
set_option maxRecDepth 100000 in
theorem mw_176 : ∀ w ∈ ([am_cd mt_176, .initialized mt_176.1.cls, .instanceMethod mt_176.1, .selects mt_176.1.cls mt_176.1 mt_176.1] : List Cond), w ∈ am_TB := am_inTB [1846, 135, 1845, 89] rfl rfl
set_option maxRecDepth 100000 in
theorem mf_176 : am_mf am_MT am_mk 176 := ⟨⟨mw_176 _ (List.mem_of_getElem? (i := 0) rfl), mw_176 _ (List.mem_of_getElem? (i := 1) rfl), by decide +kernel, by decide +kernel, by decide⟩, by decide +kernel, fun z => ⟨mw_176 _ (List.mem_of_getElem? (i := 2) rfl), mw_176 _ (List.mem_of_getElem? (i := 3) rfl), 12, _, rfl, rfl, rfl, by decide, by decide⟩, fun z => absurd z (by decide), fun z => absurd z (by decide)⟩
set_option maxRecDepth 100000 in
theorem mw_177 : ∀ w ∈ ([am_cd mt_177, .initialized mt_177.1.cls, .instanceMethod mt_177.1, .selects mt_177.1.cls mt_177.1 mt_177.1] : List Cond), w ∈ am_TB := am_inTB [1686, 135, 1685, 62] rfl rfl
set_option maxRecDepth 100000 in
theorem mf_177 : am_mf am_MT am_mk 177 := ⟨⟨mw_177 _ (List.mem_of_getElem? (i := 0) rfl), mw_177 _ (List.mem_of_getElem? (i := 1) rfl), by decide +kernel, by decide +kernel, by decide⟩, by decide +kernel, fun z => ⟨mw_177 _ (List.mem_of_getElem? (i := 2) rfl), mw_177 _ (List.mem_of_getElem? (i := 3) rfl), 12, _, rfl, rfl, rfl, by decide, by decide⟩, fun z => absurd z (by decide), fun z => absurd z (by decide)⟩
set_option maxRecDepth 100000 in
theorem mw_178 : ∀ w ∈ ([am_cd mt_178, .initialized mt_178.1.cls, .static mt_178.1] : List Cond), w ∈ am_TB := am_inTB [1719, 135, 1718] rfl rfl
set_option maxRecDepth 100000 in
theorem mf_178 : am_mf am_MT am_mk 178 := ⟨⟨mw_178 _ (List.mem_of_getElem? (i := 0) rfl), mw_178 _ (List.mem_of_getElem? (i := 1) rfl), by decide +kernel, by decide +kernel, by decide⟩, by decide +kernel, fun z => absurd z (by decide), fun _ => mw_178 _ (List.mem_of_getElem? (i := 2) rfl), fun z => absurd z (by decide)⟩
set_option maxRecDepth 100000 in
theorem mw_179 : ∀ w ∈ ([am_cd mt_179, .initialized mt_179.1.cls, .instanceMethod mt_179.1, .selects mt_179.1.cls mt_179.1 mt_179.1] : List Cond), w ∈ am_TB := am_inTB [1716, 135, 1715, 63] rfl rfl
set_option maxRecDepth 100000 in
theorem mf_179 : am_mf am_MT am_mk 179 := ⟨⟨mw_179 _ (List.mem_of_getElem? (i := 0) rfl), mw_179 _ (List.mem_of_getElem? (i := 1) rfl), by decide +kernel, by decide +kernel, by decide⟩, by decide +kernel, fun z => ⟨mw_179 _ (List.mem_of_getElem? (i := 2) rfl), mw_179 _ (List.mem_of_getElem? (i := 3) rfl), 12, _, rfl, rfl, rfl, by decide, by decide⟩, fun z => absurd z (by decide), fun z => absurd z (by decide)⟩
set_option maxRecDepth 100000 in
theorem mw_180 : ∀ w ∈ ([am_cd mt_180, .initialized mt_180.1.cls, .instanceMethod mt_180.1, .selects mt_180.1.cls mt_180.1 mt_180.1] : List Cond), w ∈ am_TB := am_inTB [1723, 135, 1722, 64] rfl rfl
set_option maxRecDepth 100000 in
theorem mf_180 : am_mf am_MT am_mk 180 := ⟨⟨mw_180 _ (List.mem_of_getElem? (i := 0) rfl), mw_180 _ (List.mem_of_getElem? (i := 1) rfl), by decide +kernel, by decide +kernel, by decide⟩, by decide +kernel, fun z => ⟨mw_180 _ (List.mem_of_getElem? (i := 2) rfl), mw_180 _ (List.mem_of_getElem? (i := 3) rfl), 12, _, rfl, rfl, rfl, by decide, by decide⟩, fun z => absurd z (by decide), fun z => absurd z (by decide)⟩
set_option maxRecDepth 100000 in
theorem mw_181 : ∀ w ∈ ([am_cd mt_181, .initialized mt_181.1.cls, .instanceMethod mt_181.1, .selects mt_181.1.cls mt_181.1 mt_181.1] : List Cond), w ∈ am_TB := am_inTB [1727, 135, 1726, 65] rfl rfl
set_option maxRecDepth 100000 in
theorem mf_181 : am_mf am_MT am_mk 181 := ⟨⟨mw_181 _ (List.mem_of_getElem? (i := 0) rfl), mw_181 _ (List.mem_of_getElem? (i := 1) rfl), by decide +kernel, by decide +kernel, by decide⟩, by decide +kernel, fun z => ⟨mw_181 _ (List.mem_of_getElem? (i := 2) rfl), mw_181 _ (List.mem_of_getElem? (i := 3) rfl), 12, _, rfl, rfl, rfl, by decide, by decide⟩, fun z => absurd z (by decide), fun z => absurd z (by decide)⟩
set_option maxRecDepth 100000 in
theorem mw_182 : ∀ w ∈ ([am_cd mt_182, .initialized mt_182.1.cls, .instanceMethod mt_182.1, .selects mt_182.1.cls mt_182.1 mt_182.1] : List Cond), w ∈ am_TB := am_inTB [1739, 135, 1738, 68] rfl rfl
set_option maxRecDepth 100000 in
theorem mf_182 : am_mf am_MT am_mk 182 := ⟨⟨mw_182 _ (List.mem_of_getElem? (i := 0) rfl), mw_182 _ (List.mem_of_getElem? (i := 1) rfl), by decide +kernel, by decide +kernel, by decide⟩, by decide +kernel, fun z => ⟨mw_182 _ (List.mem_of_getElem? (i := 2) rfl), mw_182 _ (List.mem_of_getElem? (i := 3) rfl), 12, _, rfl, rfl, rfl, by decide, by decide⟩, fun z => absurd z (by decide), fun z => absurd z (by decide)⟩
set_option maxRecDepth 100000 in
theorem mw_183 : ∀ w ∈ ([am_cd mt_183, .initialized mt_183.1.cls, .instanceMethod mt_183.1, .selects mt_183.1.cls mt_183.1 mt_183.1] : List Cond), w ∈ am_TB := am_inTB [1735, 135, 1734, 67] rfl rfl
set_option maxRecDepth 100000 in
theorem mf_183 : am_mf am_MT am_mk 183 := ⟨⟨mw_183 _ (List.mem_of_getElem? (i := 0) rfl), mw_183 _ (List.mem_of_getElem? (i := 1) rfl), by decide +kernel, by decide +kernel, by decide⟩, by decide +kernel, fun z => ⟨mw_183 _ (List.mem_of_getElem? (i := 2) rfl), mw_183 _ (List.mem_of_getElem? (i := 3) rfl), 12, _, rfl, rfl, rfl, by decide, by decide⟩, fun z => absurd z (by decide), fun z => absurd z (by decide)⟩
set_option maxRecDepth 100000 in
theorem mw_184 : ∀ w ∈ ([am_cd mt_184, .initialized mt_184.1.cls, .instanceMethod mt_184.1, .selects mt_184.1.cls mt_184.1 mt_184.1] : List Cond), w ∈ am_TB := am_inTB [1731, 135, 1730, 66] rfl rfl
set_option maxRecDepth 100000 in
theorem mf_184 : am_mf am_MT am_mk 184 := ⟨⟨mw_184 _ (List.mem_of_getElem? (i := 0) rfl), mw_184 _ (List.mem_of_getElem? (i := 1) rfl), by decide +kernel, by decide +kernel, by decide⟩, by decide +kernel, fun z => ⟨mw_184 _ (List.mem_of_getElem? (i := 2) rfl), mw_184 _ (List.mem_of_getElem? (i := 3) rfl), 12, _, rfl, rfl, rfl, by decide, by decide⟩, fun z => absurd z (by decide), fun z => absurd z (by decide)⟩
set_option maxRecDepth 100000 in
theorem mw_185 : ∀ w ∈ ([am_cd mt_185, .initialized mt_185.1.cls, .instanceMethod mt_185.1, .selects mt_185.1.cls mt_185.1 mt_185.1] : List Cond), w ∈ am_TB := am_inTB [1746, 135, 1745, 69] rfl rfl
set_option maxRecDepth 100000 in
theorem mf_185 : am_mf am_MT am_mk 185 := ⟨⟨mw_185 _ (List.mem_of_getElem? (i := 0) rfl), mw_185 _ (List.mem_of_getElem? (i := 1) rfl), by decide +kernel, by decide +kernel, by decide⟩, by decide +kernel, fun z => ⟨mw_185 _ (List.mem_of_getElem? (i := 2) rfl), mw_185 _ (List.mem_of_getElem? (i := 3) rfl), 12, _, rfl, rfl, rfl, by decide, by decide⟩, fun z => absurd z (by decide), fun z => absurd z (by decide)⟩
set_option maxRecDepth 100000 in
theorem mw_186 : ∀ w ∈ ([am_cd mt_186, .initialized mt_186.1.cls, .instanceMethod mt_186.1, .selects mt_186.1.cls mt_186.1 mt_186.1] : List Cond), w ∈ am_TB := am_inTB [1682, 135, 1681, 61] rfl rfl
set_option maxRecDepth 100000 in
theorem mf_186 : am_mf am_MT am_mk 186 := ⟨⟨mw_186 _ (List.mem_of_getElem? (i := 0) rfl), mw_186 _ (List.mem_of_getElem? (i := 1) rfl), by decide +kernel, by decide +kernel, by decide⟩, by decide +kernel, fun z => ⟨mw_186 _ (List.mem_of_getElem? (i := 2) rfl), mw_186 _ (List.mem_of_getElem? (i := 3) rfl), 12, _, rfl, rfl, rfl, by decide, by decide⟩, fun z => absurd z (by decide), fun z => absurd z (by decide)⟩
set_option maxRecDepth 100000 in
theorem mw_187 : ∀ w ∈ ([am_cd mt_187, .initialized mt_187.1.cls, .instanceMethod mt_187.1, .selects mt_187.1.cls mt_187.1 mt_187.1] : List Cond), w ∈ am_TB := am_inTB [1758, 135, 1757, 72] rfl rfl
set_option maxRecDepth 100000 in
theorem mf_187 : am_mf am_MT am_mk 187 := ⟨⟨mw_187 _ (List.mem_of_getElem? (i := 0) rfl), mw_187 _ (List.mem_of_getElem? (i := 1) rfl), by decide +kernel, by decide +kernel, by decide⟩, by decide +kernel, fun z => ⟨mw_187 _ (List.mem_of_getElem? (i := 2) rfl), mw_187 _ (List.mem_of_getElem? (i := 3) rfl), 12, _, rfl, rfl, rfl, by decide, by decide⟩, fun z => absurd z (by decide), fun z => absurd z (by decide)⟩
set_option maxRecDepth 100000 in
theorem mw_188 : ∀ w ∈ ([am_cd mt_188, .initialized mt_188.1.cls, .instanceMethod mt_188.1, .selects mt_188.1.cls mt_188.1 mt_188.1] : List Cond), w ∈ am_TB := am_inTB [1766, 135, 1765, 74] rfl rfl
set_option maxRecDepth 100000 in
theorem mf_188 : am_mf am_MT am_mk 188 := ⟨⟨mw_188 _ (List.mem_of_getElem? (i := 0) rfl), mw_188 _ (List.mem_of_getElem? (i := 1) rfl), by decide +kernel, by decide +kernel, by decide⟩, by decide +kernel, fun z => ⟨mw_188 _ (List.mem_of_getElem? (i := 2) rfl), mw_188 _ (List.mem_of_getElem? (i := 3) rfl), 12, _, rfl, rfl, rfl, by decide, by decide⟩, fun z => absurd z (by decide), fun z => absurd z (by decide)⟩
set_option maxRecDepth 100000 in
theorem mw_189 : ∀ w ∈ ([am_cd mt_189, .initialized mt_189.1.cls, .instanceMethod mt_189.1, .selects mt_189.1.cls mt_189.1 mt_189.1] : List Cond), w ∈ am_TB := am_inTB [1674, 135, 1673, 59] rfl rfl
set_option maxRecDepth 100000 in
theorem mf_189 : am_mf am_MT am_mk 189 := ⟨⟨mw_189 _ (List.mem_of_getElem? (i := 0) rfl), mw_189 _ (List.mem_of_getElem? (i := 1) rfl), by decide +kernel, by decide +kernel, by decide⟩, by decide +kernel, fun z => ⟨mw_189 _ (List.mem_of_getElem? (i := 2) rfl), mw_189 _ (List.mem_of_getElem? (i := 3) rfl), 12, _, rfl, rfl, rfl, by decide, by decide⟩, fun z => absurd z (by decide), fun z => absurd z (by decide)⟩
set_option maxRecDepth 100000 in
theorem mw_190 : ∀ w ∈ ([am_cd mt_190, .initialized mt_190.1.cls, .instanceMethod mt_190.1, .selects mt_190.1.cls mt_190.1 mt_190.1] : List Cond), w ∈ am_TB := am_inTB [1754, 135, 1753, 71] rfl rfl
set_option maxRecDepth 100000 in
theorem mf_190 : am_mf am_MT am_mk 190 := ⟨⟨mw_190 _ (List.mem_of_getElem? (i := 0) rfl), mw_190 _ (List.mem_of_getElem? (i := 1) rfl), by decide +kernel, by decide +kernel, by decide⟩, by decide +kernel, fun z => ⟨mw_190 _ (List.mem_of_getElem? (i := 2) rfl), mw_190 _ (List.mem_of_getElem? (i := 3) rfl), 12, _, rfl, rfl, rfl, by decide, by decide⟩, fun z => absurd z (by decide), fun z => absurd z (by decide)⟩
set_option maxRecDepth 100000 in
theorem mw_191 : ∀ w ∈ ([am_cd mt_191, .initialized mt_191.1.cls, .instanceMethod mt_191.1, .selects mt_191.1.cls mt_191.1 mt_191.1] : List Cond), w ∈ am_TB := am_inTB [1762, 135, 1761, 73] rfl rfl
set_option maxRecDepth 100000 in
theorem mf_191 : am_mf am_MT am_mk 191 := ⟨⟨mw_191 _ (List.mem_of_getElem? (i := 0) rfl), mw_191 _ (List.mem_of_getElem? (i := 1) rfl), by decide +kernel, by decide +kernel, by decide⟩, by decide +kernel, fun z => ⟨mw_191 _ (List.mem_of_getElem? (i := 2) rfl), mw_191 _ (List.mem_of_getElem? (i := 3) rfl), 12, _, rfl, rfl, rfl, by decide, by decide⟩, fun z => absurd z (by decide), fun z => absurd z (by decide)⟩
set_option maxRecDepth 100000 in
theorem mw_192 : ∀ w ∈ ([am_cd mt_192, .initialized mt_192.1.cls, .instanceMethod mt_192.1, .selects mt_192.1.cls mt_192.1 mt_192.1] : List Cond), w ∈ am_TB := am_inTB [1770, 135, 1769, 75] rfl rfl
set_option maxRecDepth 100000 in
theorem mf_192 : am_mf am_MT am_mk 192 := ⟨⟨mw_192 _ (List.mem_of_getElem? (i := 0) rfl), mw_192 _ (List.mem_of_getElem? (i := 1) rfl), by decide +kernel, by decide +kernel, by decide⟩, by decide +kernel, fun z => ⟨mw_192 _ (List.mem_of_getElem? (i := 2) rfl), mw_192 _ (List.mem_of_getElem? (i := 3) rfl), 12, _, rfl, rfl, rfl, by decide, by decide⟩, fun z => absurd z (by decide), fun z => absurd z (by decide)⟩
set_option maxRecDepth 100000 in
theorem mw_193 : ∀ w ∈ ([am_cd mt_193, .initialized mt_193.1.cls, .instanceMethod mt_193.1, .selects mt_193.1.cls mt_193.1 mt_193.1] : List Cond), w ∈ am_TB := am_inTB [1774, 135, 1773, 76] rfl rfl
set_option maxRecDepth 100000 in
theorem mf_193 : am_mf am_MT am_mk 193 := ⟨⟨mw_193 _ (List.mem_of_getElem? (i := 0) rfl), mw_193 _ (List.mem_of_getElem? (i := 1) rfl), by decide +kernel, by decide +kernel, by decide⟩, by decide +kernel, fun z => ⟨mw_193 _ (List.mem_of_getElem? (i := 2) rfl), mw_193 _ (List.mem_of_getElem? (i := 3) rfl), 12, _, rfl, rfl, rfl, by decide, by decide⟩, fun z => absurd z (by decide), fun z => absurd z (by decide)⟩
set_option maxRecDepth 100000 in
theorem mw_194 : ∀ w ∈ ([am_cd mt_194, .initialized mt_194.1.cls, .instanceMethod mt_194.1, .selects mt_194.1.cls mt_194.1 mt_194.1] : List Cond), w ∈ am_TB := am_inTB [1778, 135, 1777, 77] rfl rfl
set_option maxRecDepth 100000 in
theorem mf_194 : am_mf am_MT am_mk 194 := ⟨⟨mw_194 _ (List.mem_of_getElem? (i := 0) rfl), mw_194 _ (List.mem_of_getElem? (i := 1) rfl), by decide +kernel, by decide +kernel, by decide⟩, by decide +kernel, fun z => ⟨mw_194 _ (List.mem_of_getElem? (i := 2) rfl), mw_194 _ (List.mem_of_getElem? (i := 3) rfl), 12, _, rfl, rfl, rfl, by decide, by decide⟩, fun z => absurd z (by decide), fun z => absurd z (by decide)⟩
set_option maxRecDepth 100000 in
theorem mw_195 : ∀ w ∈ ([am_cd mt_195, .initialized mt_195.1.cls, .instanceMethod mt_195.1, .selects mt_195.1.cls mt_195.1 mt_195.1] : List Cond), w ∈ am_TB := am_inTB [1782, 135, 1781, 78] rfl rfl
set_option maxRecDepth 100000 in
theorem mf_195 : am_mf am_MT am_mk 195 := ⟨⟨mw_195 _ (List.mem_of_getElem? (i := 0) rfl), mw_195 _ (List.mem_of_getElem? (i := 1) rfl), by decide +kernel, by decide +kernel, by decide⟩, by decide +kernel, fun z => ⟨mw_195 _ (List.mem_of_getElem? (i := 2) rfl), mw_195 _ (List.mem_of_getElem? (i := 3) rfl), 12, _, rfl, rfl, rfl, by decide, by decide⟩, fun z => absurd z (by decide), fun z => absurd z (by decide)⟩
set_option maxRecDepth 100000 in
theorem mw_196 : ∀ w ∈ ([am_cd mt_196, .initialized mt_196.1.cls, .instanceMethod mt_196.1, .selects mt_196.1.cls mt_196.1 mt_196.1] : List Cond), w ∈ am_TB := am_inTB [1655, 135, 1654, 55] rfl rfl
set_option maxRecDepth 100000 in
theorem mf_196 : am_mf am_MT am_mk 196 := ⟨⟨mw_196 _ (List.mem_of_getElem? (i := 0) rfl), mw_196 _ (List.mem_of_getElem? (i := 1) rfl), by decide +kernel, by decide +kernel, by decide⟩, by decide +kernel, fun z => ⟨mw_196 _ (List.mem_of_getElem? (i := 2) rfl), mw_196 _ (List.mem_of_getElem? (i := 3) rfl), 12, _, rfl, rfl, rfl, by decide, by decide⟩, fun z => absurd z (by decide), fun z => absurd z (by decide)⟩
set_option maxRecDepth 100000 in
theorem mw_197 : ∀ w ∈ ([am_cd mt_197, .initialized mt_197.1.cls, .instanceMethod mt_197.1, .selects mt_197.1.cls mt_197.1 mt_197.1] : List Cond), w ∈ am_TB := am_inTB [1651, 135, 1650, 54] rfl rfl
set_option maxRecDepth 100000 in
theorem mf_197 : am_mf am_MT am_mk 197 := ⟨⟨mw_197 _ (List.mem_of_getElem? (i := 0) rfl), mw_197 _ (List.mem_of_getElem? (i := 1) rfl), by decide +kernel, by decide +kernel, by decide⟩, by decide +kernel, fun z => ⟨mw_197 _ (List.mem_of_getElem? (i := 2) rfl), mw_197 _ (List.mem_of_getElem? (i := 3) rfl), 12, _, rfl, rfl, rfl, by decide, by decide⟩, fun z => absurd z (by decide), fun z => absurd z (by decide)⟩
set_option maxRecDepth 100000 in
theorem mw_198 : ∀ w ∈ ([am_cd mt_198, .initialized mt_198.1.cls, .static mt_198.1] : List Cond), w ∈ am_TB := am_inTB [1805, 135, 1804] rfl rfl
set_option maxRecDepth 100000 in
theorem mf_198 : am_mf am_MT am_mk 198 := ⟨⟨mw_198 _ (List.mem_of_getElem? (i := 0) rfl), mw_198 _ (List.mem_of_getElem? (i := 1) rfl), by decide +kernel, by decide +kernel, by decide⟩, by decide +kernel, fun z => absurd z (by decide), fun _ => mw_198 _ (List.mem_of_getElem? (i := 2) rfl), fun z => absurd z (by decide)⟩
set_option maxRecDepth 100000 in
theorem mw_199 : ∀ w ∈ ([am_cd mt_199, .initialized mt_199.1.cls, .static mt_199.1] : List Cond), w ∈ am_TB := am_inTB [1808, 135, 1807] rfl rfl
set_option maxRecDepth 100000 in
theorem mf_199 : am_mf am_MT am_mk 199 := ⟨⟨mw_199 _ (List.mem_of_getElem? (i := 0) rfl), mw_199 _ (List.mem_of_getElem? (i := 1) rfl), by decide +kernel, by decide +kernel, by decide⟩, by decide +kernel, fun z => absurd z (by decide), fun _ => mw_199 _ (List.mem_of_getElem? (i := 2) rfl), fun z => absurd z (by decide)⟩
set_option maxRecDepth 100000 in
theorem mw_200 : ∀ w ∈ ([am_cd mt_200, .initialized mt_200.1.cls, .instanceMethod mt_200.1, .selects mt_200.1.cls mt_200.1 mt_200.1] : List Cond), w ∈ am_TB := am_inTB [1802, 135, 1801, 82] rfl rfl
set_option maxRecDepth 100000 in
theorem mf_200 : am_mf am_MT am_mk 200 := ⟨⟨mw_200 _ (List.mem_of_getElem? (i := 0) rfl), mw_200 _ (List.mem_of_getElem? (i := 1) rfl), by decide +kernel, by decide +kernel, by decide⟩, by decide +kernel, fun z => ⟨mw_200 _ (List.mem_of_getElem? (i := 2) rfl), mw_200 _ (List.mem_of_getElem? (i := 3) rfl), 12, _, rfl, rfl, rfl, by decide, by decide⟩, fun z => absurd z (by decide), fun z => absurd z (by decide)⟩
set_option maxRecDepth 100000 in
theorem mw_201 : ∀ w ∈ ([am_cd mt_201, .initialized mt_201.1.cls, .static mt_201.1] : List Cond), w ∈ am_TB := am_inTB [1896, 135, 1895] rfl rfl
set_option maxRecDepth 100000 in
theorem mf_201 : am_mf am_MT am_mk 201 := ⟨⟨mw_201 _ (List.mem_of_getElem? (i := 0) rfl), mw_201 _ (List.mem_of_getElem? (i := 1) rfl), by decide +kernel, by decide +kernel, by decide⟩, by decide +kernel, fun z => absurd z (by decide), fun _ => mw_201 _ (List.mem_of_getElem? (i := 2) rfl), fun z => absurd z (by decide)⟩
set_option maxRecDepth 100000 in
theorem mw_202 : ∀ w ∈ ([am_cd mt_202, .initialized mt_202.1.cls, .instanceMethod mt_202.1, .selects mt_202.1.cls mt_202.1 mt_202.1] : List Cond), w ∈ am_TB := am_inTB [1826, 135, 1825, 85] rfl rfl
set_option maxRecDepth 100000 in
theorem mf_202 : am_mf am_MT am_mk 202 := ⟨⟨mw_202 _ (List.mem_of_getElem? (i := 0) rfl), mw_202 _ (List.mem_of_getElem? (i := 1) rfl), by decide +kernel, by decide +kernel, by decide⟩, by decide +kernel, fun z => ⟨mw_202 _ (List.mem_of_getElem? (i := 2) rfl), mw_202 _ (List.mem_of_getElem? (i := 3) rfl), 12, _, rfl, rfl, rfl, by decide, by decide⟩, fun z => absurd z (by decide), fun z => absurd z (by decide)⟩
set_option maxRecDepth 100000 in
theorem mw_203 : ∀ w ∈ ([am_cd mt_203, .initialized mt_203.1.cls, .instanceMethod mt_203.1, .selects mt_203.1.cls mt_203.1 mt_203.1] : List Cond), w ∈ am_TB := am_inTB [1822, 135, 1821, 84] rfl rfl
set_option maxRecDepth 100000 in
theorem mf_203 : am_mf am_MT am_mk 203 := ⟨⟨mw_203 _ (List.mem_of_getElem? (i := 0) rfl), mw_203 _ (List.mem_of_getElem? (i := 1) rfl), by decide +kernel, by decide +kernel, by decide⟩, by decide +kernel, fun z => ⟨mw_203 _ (List.mem_of_getElem? (i := 2) rfl), mw_203 _ (List.mem_of_getElem? (i := 3) rfl), 12, _, rfl, rfl, rfl, by decide, by decide⟩, fun z => absurd z (by decide), fun z => absurd z (by decide)⟩
set_option maxRecDepth 100000 in
theorem mw_204 : ∀ w ∈ ([am_cd mt_204, .initialized mt_204.1.cls, .instanceMethod mt_204.1, .selects mt_204.1.cls mt_204.1 mt_204.1] : List Cond), w ∈ am_TB := am_inTB [1830, 135, 1829, 86] rfl rfl
set_option maxRecDepth 100000 in
theorem mf_204 : am_mf am_MT am_mk 204 := ⟨⟨mw_204 _ (List.mem_of_getElem? (i := 0) rfl), mw_204 _ (List.mem_of_getElem? (i := 1) rfl), by decide +kernel, by decide +kernel, by decide⟩, by decide +kernel, fun z => ⟨mw_204 _ (List.mem_of_getElem? (i := 2) rfl), mw_204 _ (List.mem_of_getElem? (i := 3) rfl), 12, _, rfl, rfl, rfl, by decide, by decide⟩, fun z => absurd z (by decide), fun z => absurd z (by decide)⟩
set_option maxRecDepth 100000 in
theorem mw_205 : ∀ w ∈ ([am_cd mt_205, .initialized mt_205.1.cls, .instanceMethod mt_205.1, .selects mt_205.1.cls mt_205.1 mt_205.1] : List Cond), w ∈ am_TB := am_inTB [2102, 135, 2101, 122] rfl rfl
set_option maxRecDepth 100000 in
theorem mf_205 : am_mf am_MT am_mk 205 := ⟨⟨mw_205 _ (List.mem_of_getElem? (i := 0) rfl), mw_205 _ (List.mem_of_getElem? (i := 1) rfl), by decide +kernel, by decide +kernel, by decide⟩, by decide +kernel, fun z => ⟨mw_205 _ (List.mem_of_getElem? (i := 2) rfl), mw_205 _ (List.mem_of_getElem? (i := 3) rfl), 12, _, rfl, rfl, rfl, by decide, by decide⟩, fun z => absurd z (by decide), fun z => absurd z (by decide)⟩
set_option maxRecDepth 100000 in
theorem mw_206 : ∀ w ∈ ([am_cd mt_206, .initialized mt_206.1.cls, .instanceMethod mt_206.1, .selects mt_206.1.cls mt_206.1 mt_206.1] : List Cond), w ∈ am_TB := am_inTB [1814, 135, 1813, 83] rfl rfl
set_option maxRecDepth 100000 in
theorem mf_206 : am_mf am_MT am_mk 206 := ⟨⟨mw_206 _ (List.mem_of_getElem? (i := 0) rfl), mw_206 _ (List.mem_of_getElem? (i := 1) rfl), by decide +kernel, by decide +kernel, by decide⟩, by decide +kernel, fun z => ⟨mw_206 _ (List.mem_of_getElem? (i := 2) rfl), mw_206 _ (List.mem_of_getElem? (i := 3) rfl), 12, _, rfl, rfl, rfl, by decide, by decide⟩, fun z => absurd z (by decide), fun z => absurd z (by decide)⟩
set_option maxRecDepth 100000 in
theorem mw_207 : ∀ w ∈ ([am_cd mt_207, .initialized mt_207.1.cls, .instanceMethod mt_207.1, .selects mt_207.1.cls mt_207.1 mt_207.1] : List Cond), w ∈ am_TB := am_inTB [1647, 135, 1645, 1646] rfl rfl
set_option maxRecDepth 100000 in
theorem mf_207 : am_mf am_MT am_mk 207 := ⟨⟨mw_207 _ (List.mem_of_getElem? (i := 0) rfl), mw_207 _ (List.mem_of_getElem? (i := 1) rfl), by decide +kernel, by decide +kernel, by decide⟩, by decide +kernel, fun z => ⟨mw_207 _ (List.mem_of_getElem? (i := 2) rfl), mw_207 _ (List.mem_of_getElem? (i := 3) rfl), 12, _, rfl, rfl, rfl, by decide, by decide⟩, fun z => absurd z (by decide), fun z => absurd z (by decide)⟩
set_option maxRecDepth 100000 in
theorem mw_208 : ∀ w ∈ ([am_cd mt_208, .initialized mt_208.1.cls, .instanceMethod mt_208.1, .selects mt_208.1.cls mt_208.1 mt_208.1] : List Cond), w ∈ am_TB := am_inTB [1818, 135, 1816, 1817] rfl rfl
set_option maxRecDepth 100000 in
theorem mf_208 : am_mf am_MT am_mk 208 := ⟨⟨mw_208 _ (List.mem_of_getElem? (i := 0) rfl), mw_208 _ (List.mem_of_getElem? (i := 1) rfl), by decide +kernel, by decide +kernel, by decide⟩, by decide +kernel, fun z => ⟨mw_208 _ (List.mem_of_getElem? (i := 2) rfl), mw_208 _ (List.mem_of_getElem? (i := 3) rfl), 12, _, rfl, rfl, rfl, by decide, by decide⟩, fun z => absurd z (by decide), fun z => absurd z (by decide)⟩
set_option maxRecDepth 100000 in
theorem mw_209 : ∀ w ∈ ([am_cd mt_209, .initialized mt_209.1.cls, .instanceMethod mt_209.1, .selects mt_209.1.cls mt_209.1 mt_209.1] : List Cond), w ∈ am_TB := am_inTB [1881, 135, 1880, 94] rfl rfl
set_option maxRecDepth 100000 in
theorem mf_209 : am_mf am_MT am_mk 209 := ⟨⟨mw_209 _ (List.mem_of_getElem? (i := 0) rfl), mw_209 _ (List.mem_of_getElem? (i := 1) rfl), by decide +kernel, by decide +kernel, by decide⟩, by decide +kernel, fun z => ⟨mw_209 _ (List.mem_of_getElem? (i := 2) rfl), mw_209 _ (List.mem_of_getElem? (i := 3) rfl), 12, _, rfl, rfl, rfl, by decide, by decide⟩, fun z => absurd z (by decide), fun z => absurd z (by decide)⟩
set_option maxRecDepth 100000 in
theorem mw_210 : ∀ w ∈ ([am_cd mt_210, .initialized mt_210.1.cls, .instanceMethod mt_210.1, .selects mt_210.1.cls mt_210.1 mt_210.1] : List Cond), w ∈ am_TB := am_inTB [1838, 135, 1837, 87] rfl rfl
set_option maxRecDepth 100000 in
theorem mf_210 : am_mf am_MT am_mk 210 := ⟨⟨mw_210 _ (List.mem_of_getElem? (i := 0) rfl), mw_210 _ (List.mem_of_getElem? (i := 1) rfl), by decide +kernel, by decide +kernel, by decide⟩, by decide +kernel, fun z => ⟨mw_210 _ (List.mem_of_getElem? (i := 2) rfl), mw_210 _ (List.mem_of_getElem? (i := 3) rfl), 12, _, rfl, rfl, rfl, by decide, by decide⟩, fun z => absurd z (by decide), fun z => absurd z (by decide)⟩
set_option maxRecDepth 100000 in
theorem mw_211 : ∀ w ∈ ([am_cd mt_211, .initialized mt_211.1.cls, .instanceMethod mt_211.1, .selects mt_211.1.cls mt_211.1 mt_211.1] : List Cond), w ∈ am_TB := am_inTB [1869, 135, 1868, 93] rfl rfl
set_option maxRecDepth 100000 in
theorem mf_211 : am_mf am_MT am_mk 211 := ⟨⟨mw_211 _ (List.mem_of_getElem? (i := 0) rfl), mw_211 _ (List.mem_of_getElem? (i := 1) rfl), by decide +kernel, by decide +kernel, by decide⟩, by decide +kernel, fun z => ⟨mw_211 _ (List.mem_of_getElem? (i := 2) rfl), mw_211 _ (List.mem_of_getElem? (i := 3) rfl), 12, _, rfl, rfl, rfl, by decide, by decide⟩, fun z => absurd z (by decide), fun z => absurd z (by decide)⟩
set_option maxRecDepth 100000 in
theorem mw_212 : ∀ w ∈ ([am_cd mt_212, .initialized mt_212.1.cls, .instanceMethod mt_212.1, .selects mt_212.1.cls mt_212.1 mt_212.1] : List Cond), w ∈ am_TB := am_inTB [1842, 135, 1841, 88] rfl rfl
set_option maxRecDepth 100000 in
theorem mf_212 : am_mf am_MT am_mk 212 := ⟨⟨mw_212 _ (List.mem_of_getElem? (i := 0) rfl), mw_212 _ (List.mem_of_getElem? (i := 1) rfl), by decide +kernel, by decide +kernel, by decide⟩, by decide +kernel, fun z => ⟨mw_212 _ (List.mem_of_getElem? (i := 2) rfl), mw_212 _ (List.mem_of_getElem? (i := 3) rfl), 12, _, rfl, rfl, rfl, by decide, by decide⟩, fun z => absurd z (by decide), fun z => absurd z (by decide)⟩
set_option maxRecDepth 100000 in
theorem mw_213 : ∀ w ∈ ([am_cd mt_213, .initialized mt_213.1.cls, .instanceMethod mt_213.1, .selects mt_213.1.cls mt_213.1 mt_213.1] : List Cond), w ∈ am_TB := am_inTB [1912, 135, 1911, 99] rfl rfl
set_option maxRecDepth 100000 in
theorem mf_213 : am_mf am_MT am_mk 213 := ⟨⟨mw_213 _ (List.mem_of_getElem? (i := 0) rfl), mw_213 _ (List.mem_of_getElem? (i := 1) rfl), by decide +kernel, by decide +kernel, by decide⟩, by decide +kernel, fun z => ⟨mw_213 _ (List.mem_of_getElem? (i := 2) rfl), mw_213 _ (List.mem_of_getElem? (i := 3) rfl), 12, _, rfl, rfl, rfl, by decide, by decide⟩, fun z => absurd z (by decide), fun z => absurd z (by decide)⟩
set_option maxRecDepth 100000 in
theorem mw_214 : ∀ w ∈ ([am_cd mt_214, .initialized mt_214.1.cls, .instanceMethod mt_214.1, .selects mt_214.1.cls mt_214.1 mt_214.1] : List Cond), w ∈ am_TB := am_inTB [1908, 135, 1907, 98] rfl rfl
set_option maxRecDepth 100000 in
theorem mf_214 : am_mf am_MT am_mk 214 := ⟨⟨mw_214 _ (List.mem_of_getElem? (i := 0) rfl), mw_214 _ (List.mem_of_getElem? (i := 1) rfl), by decide +kernel, by decide +kernel, by decide⟩, by decide +kernel, fun z => ⟨mw_214 _ (List.mem_of_getElem? (i := 2) rfl), mw_214 _ (List.mem_of_getElem? (i := 3) rfl), 12, _, rfl, rfl, rfl, by decide, by decide⟩, fun z => absurd z (by decide), fun z => absurd z (by decide)⟩
set_option maxRecDepth 100000 in
theorem mw_215 : ∀ w ∈ ([am_cd mt_215, .initialized mt_215.1.cls, .instanceMethod mt_215.1, .selects mt_215.1.cls mt_215.1 mt_215.1] : List Cond), w ∈ am_TB := am_inTB [1904, 135, 1903, 97] rfl rfl
set_option maxRecDepth 100000 in
theorem mf_215 : am_mf am_MT am_mk 215 := ⟨⟨mw_215 _ (List.mem_of_getElem? (i := 0) rfl), mw_215 _ (List.mem_of_getElem? (i := 1) rfl), by decide +kernel, by decide +kernel, by decide⟩, by decide +kernel, fun z => ⟨mw_215 _ (List.mem_of_getElem? (i := 2) rfl), mw_215 _ (List.mem_of_getElem? (i := 3) rfl), 12, _, rfl, rfl, rfl, by decide, by decide⟩, fun z => absurd z (by decide), fun z => absurd z (by decide)⟩
set_option maxRecDepth 100000 in
theorem mw_216 : ∀ w ∈ ([am_cd mt_216, .initialized mt_216.1.cls, .instanceMethod mt_216.1, .selects mt_216.1.cls mt_216.1 mt_216.1] : List Cond), w ∈ am_TB := am_inTB [1834, 135, 1832, 1833] rfl rfl
set_option maxRecDepth 100000 in
theorem mf_216 : am_mf am_MT am_mk 216 := ⟨⟨mw_216 _ (List.mem_of_getElem? (i := 0) rfl), mw_216 _ (List.mem_of_getElem? (i := 1) rfl), by decide +kernel, by decide +kernel, by decide⟩, by decide +kernel, fun z => ⟨mw_216 _ (List.mem_of_getElem? (i := 2) rfl), mw_216 _ (List.mem_of_getElem? (i := 3) rfl), 12, _, rfl, rfl, rfl, by decide, by decide⟩, fun z => absurd z (by decide), fun z => absurd z (by decide)⟩
set_option maxRecDepth 100000 in
theorem mw_217 : ∀ w ∈ ([am_cd mt_217, .initialized mt_217.1.cls, .instanceMethod mt_217.1, .selects mt_217.1.cls mt_217.1 mt_217.1] : List Cond), w ∈ am_TB := am_inTB [1865, 135, 1863, 1864] rfl rfl
set_option maxRecDepth 100000 in
theorem mf_217 : am_mf am_MT am_mk 217 := ⟨⟨mw_217 _ (List.mem_of_getElem? (i := 0) rfl), mw_217 _ (List.mem_of_getElem? (i := 1) rfl), by decide +kernel, by decide +kernel, by decide⟩, by decide +kernel, fun z => ⟨mw_217 _ (List.mem_of_getElem? (i := 2) rfl), mw_217 _ (List.mem_of_getElem? (i := 3) rfl), 12, _, rfl, rfl, rfl, by decide, by decide⟩, fun z => absurd z (by decide), fun z => absurd z (by decide)⟩
set_option maxRecDepth 100000 in
theorem mw_218 : ∀ w ∈ ([am_cd mt_218, .initialized mt_218.1.cls, .instanceMethod mt_218.1, .selects mt_218.1.cls mt_218.1 mt_218.1] : List Cond), w ∈ am_TB := am_inTB [1873, 135, 1871, 1872] rfl rfl
set_option maxRecDepth 100000 in
theorem mf_218 : am_mf am_MT am_mk 218 := ⟨⟨mw_218 _ (List.mem_of_getElem? (i := 0) rfl), mw_218 _ (List.mem_of_getElem? (i := 1) rfl), by decide +kernel, by decide +kernel, by decide⟩, by decide +kernel, fun z => ⟨mw_218 _ (List.mem_of_getElem? (i := 2) rfl), mw_218 _ (List.mem_of_getElem? (i := 3) rfl), 12, _, rfl, rfl, rfl, by decide, by decide⟩, fun z => absurd z (by decide), fun z => absurd z (by decide)⟩
set_option maxRecDepth 100000 in
theorem mw_219 : ∀ w ∈ ([am_cd mt_219, .initialized mt_219.1.cls, .instanceMethod mt_219.1, .selects mt_219.1.cls mt_219.1 mt_219.1] : List Cond), w ∈ am_TB := am_inTB [1877, 135, 1875, 1876] rfl rfl
set_option maxRecDepth 100000 in
theorem mf_219 : am_mf am_MT am_mk 219 := ⟨⟨mw_219 _ (List.mem_of_getElem? (i := 0) rfl), mw_219 _ (List.mem_of_getElem? (i := 1) rfl), by decide +kernel, by decide +kernel, by decide⟩, by decide +kernel, fun z => ⟨mw_219 _ (List.mem_of_getElem? (i := 2) rfl), mw_219 _ (List.mem_of_getElem? (i := 3) rfl), 12, _, rfl, rfl, rfl, by decide, by decide⟩, fun z => absurd z (by decide), fun z => absurd z (by decide)⟩
set_option maxRecDepth 100000 in
theorem mw_220 : ∀ w ∈ ([am_cd mt_220, .initialized mt_220.1.cls, .instanceMethod mt_220.1, .selects mt_220.1.cls mt_220.1 mt_220.1] : List Cond), w ∈ am_TB := am_inTB [1885, 135, 1883, 1884] rfl rfl
set_option maxRecDepth 100000 in
theorem mf_220 : am_mf am_MT am_mk 220 := ⟨⟨mw_220 _ (List.mem_of_getElem? (i := 0) rfl), mw_220 _ (List.mem_of_getElem? (i := 1) rfl), by decide +kernel, by decide +kernel, by decide⟩, by decide +kernel, fun z => ⟨mw_220 _ (List.mem_of_getElem? (i := 2) rfl), mw_220 _ (List.mem_of_getElem? (i := 3) rfl), 12, _, rfl, rfl, rfl, by decide, by decide⟩, fun z => absurd z (by decide), fun z => absurd z (by decide)⟩
set_option maxRecDepth 100000 in
theorem mw_221 : ∀ w ∈ ([am_cd mt_221, .initialized mt_221.1.cls, .instanceMethod mt_221.1, .selects mt_221.1.cls mt_221.1 mt_221.1] : List Cond), w ∈ am_TB := am_inTB [1893, 135, 1892, 95] rfl rfl
set_option maxRecDepth 100000 in
theorem mf_221 : am_mf am_MT am_mk 221 := ⟨⟨mw_221 _ (List.mem_of_getElem? (i := 0) rfl), mw_221 _ (List.mem_of_getElem? (i := 1) rfl), by decide +kernel, by decide +kernel, by decide⟩, by decide +kernel, fun z => ⟨mw_221 _ (List.mem_of_getElem? (i := 2) rfl), mw_221 _ (List.mem_of_getElem? (i := 3) rfl), 12, _, rfl, rfl, rfl, by decide, by decide⟩, fun z => absurd z (by decide), fun z => absurd z (by decide)⟩
set_option maxRecDepth 100000 in
theorem mw_222 : ∀ w ∈ ([am_cd mt_222, .initialized mt_222.1.cls, .instanceMethod mt_222.1, .selects mt_222.1.cls mt_222.1 mt_222.1] : List Cond), w ∈ am_TB := am_inTB [1900, 135, 1899, 96] rfl rfl
set_option maxRecDepth 100000 in
theorem mf_222 : am_mf am_MT am_mk 222 := ⟨⟨mw_222 _ (List.mem_of_getElem? (i := 0) rfl), mw_222 _ (List.mem_of_getElem? (i := 1) rfl), by decide +kernel, by decide +kernel, by decide⟩, by decide +kernel, fun z => ⟨mw_222 _ (List.mem_of_getElem? (i := 2) rfl), mw_222 _ (List.mem_of_getElem? (i := 3) rfl), 12, _, rfl, rfl, rfl, by decide, by decide⟩, fun z => absurd z (by decide), fun z => absurd z (by decide)⟩
set_option maxRecDepth 100000 in
theorem mw_223 : ∀ w ∈ ([am_cd mt_223, .initialized mt_223.1.cls, .instanceMethod mt_223.1, .selects mt_223.1.cls mt_223.1 mt_223.1] : List Cond), w ∈ am_TB := am_inTB [1889, 135, 1887, 1888] rfl rfl
set_option maxRecDepth 100000 in
theorem mf_223 : am_mf am_MT am_mk 223 := ⟨⟨mw_223 _ (List.mem_of_getElem? (i := 0) rfl), mw_223 _ (List.mem_of_getElem? (i := 1) rfl), by decide +kernel, by decide +kernel, by decide⟩, by decide +kernel, fun z => ⟨mw_223 _ (List.mem_of_getElem? (i := 2) rfl), mw_223 _ (List.mem_of_getElem? (i := 3) rfl), 12, _, rfl, rfl, rfl, by decide, by decide⟩, fun z => absurd z (by decide), fun z => absurd z (by decide)⟩
set_option maxRecDepth 100000 in
theorem mw_224 : ∀ w ∈ ([am_cd mt_224, .initialized mt_224.1.cls, .instanceMethod mt_224.1, .selects mt_224.1.cls mt_224.1 mt_224.1] : List Cond), w ∈ am_TB := am_inTB [1920, 135, 1919, 100] rfl rfl
set_option maxRecDepth 100000 in
theorem mf_224 : am_mf am_MT am_mk 224 := ⟨⟨mw_224 _ (List.mem_of_getElem? (i := 0) rfl), mw_224 _ (List.mem_of_getElem? (i := 1) rfl), by decide +kernel, by decide +kernel, by decide⟩, by decide +kernel, fun z => ⟨mw_224 _ (List.mem_of_getElem? (i := 2) rfl), mw_224 _ (List.mem_of_getElem? (i := 3) rfl), 12, _, rfl, rfl, rfl, by decide, by decide⟩, fun z => absurd z (by decide), fun z => absurd z (by decide)⟩
set_option maxRecDepth 100000 in
theorem mw_225 : ∀ w ∈ ([am_cd mt_225, .initialized mt_225.1.cls, .instanceMethod mt_225.1, .selects mt_225.1.cls mt_225.1 mt_225.1] : List Cond), w ∈ am_TB := am_inTB [1924, 135, 1923, 101] rfl rfl
set_option maxRecDepth 100000 in
theorem mf_225 : am_mf am_MT am_mk 225 := ⟨⟨mw_225 _ (List.mem_of_getElem? (i := 0) rfl), mw_225 _ (List.mem_of_getElem? (i := 1) rfl), by decide +kernel, by decide +kernel, by decide⟩, by decide +kernel, fun z => ⟨mw_225 _ (List.mem_of_getElem? (i := 2) rfl), mw_225 _ (List.mem_of_getElem? (i := 3) rfl), 12, _, rfl, rfl, rfl, by decide, by decide⟩, fun z => absurd z (by decide), fun z => absurd z (by decide)⟩
set_option maxRecDepth 100000 in
theorem mw_226 : ∀ w ∈ ([am_cd mt_226, .initialized mt_226.1.cls, .instanceMethod mt_226.1, .selects mt_226.1.cls mt_226.1 mt_226.1] : List Cond), w ∈ am_TB := am_inTB [1916, 135, 1914, 1915] rfl rfl
set_option maxRecDepth 100000 in
theorem mf_226 : am_mf am_MT am_mk 226 := ⟨⟨mw_226 _ (List.mem_of_getElem? (i := 0) rfl), mw_226 _ (List.mem_of_getElem? (i := 1) rfl), by decide +kernel, by decide +kernel, by decide⟩, by decide +kernel, fun z => ⟨mw_226 _ (List.mem_of_getElem? (i := 2) rfl), mw_226 _ (List.mem_of_getElem? (i := 3) rfl), 12, _, rfl, rfl, rfl, by decide, by decide⟩, fun z => absurd z (by decide), fun z => absurd z (by decide)⟩
set_option maxRecDepth 100000 in
theorem mw_227 : ∀ w ∈ ([am_cd mt_227, .initialized mt_227.1.cls, .instanceMethod mt_227.1, .selects mt_227.1.cls mt_227.1 mt_227.1] : List Cond), w ∈ am_TB := am_inTB [1932, 135, 1931, 102] rfl rfl
set_option maxRecDepth 100000 in
theorem mf_227 : am_mf am_MT am_mk 227 := ⟨⟨mw_227 _ (List.mem_of_getElem? (i := 0) rfl), mw_227 _ (List.mem_of_getElem? (i := 1) rfl), by decide +kernel, by decide +kernel, by decide⟩, by decide +kernel, fun z => ⟨mw_227 _ (List.mem_of_getElem? (i := 2) rfl), mw_227 _ (List.mem_of_getElem? (i := 3) rfl), 12, _, rfl, rfl, rfl, by decide, by decide⟩, fun z => absurd z (by decide), fun z => absurd z (by decide)⟩
set_option maxRecDepth 100000 in
theorem mw_228 : ∀ w ∈ ([am_cd mt_228, .initialized mt_228.1.cls, .instanceMethod mt_228.1, .selects mt_228.1.cls mt_228.1 mt_228.1] : List Cond), w ∈ am_TB := am_inTB [1936, 135, 1935, 103] rfl rfl
set_option maxRecDepth 100000 in
theorem mf_228 : am_mf am_MT am_mk 228 := ⟨⟨mw_228 _ (List.mem_of_getElem? (i := 0) rfl), mw_228 _ (List.mem_of_getElem? (i := 1) rfl), by decide +kernel, by decide +kernel, by decide⟩, by decide +kernel, fun z => ⟨mw_228 _ (List.mem_of_getElem? (i := 2) rfl), mw_228 _ (List.mem_of_getElem? (i := 3) rfl), 12, _, rfl, rfl, rfl, by decide, by decide⟩, fun z => absurd z (by decide), fun z => absurd z (by decide)⟩
set_option maxRecDepth 100000 in
theorem mw_229 : ∀ w ∈ ([am_cd mt_229, .initialized mt_229.1.cls, .instanceMethod mt_229.1, .selects mt_229.1.cls mt_229.1 mt_229.1] : List Cond), w ∈ am_TB := am_inTB [1928, 135, 1926, 1927] rfl rfl
set_option maxRecDepth 100000 in
theorem mf_229 : am_mf am_MT am_mk 229 := ⟨⟨mw_229 _ (List.mem_of_getElem? (i := 0) rfl), mw_229 _ (List.mem_of_getElem? (i := 1) rfl), by decide +kernel, by decide +kernel, by decide⟩, by decide +kernel, fun z => ⟨mw_229 _ (List.mem_of_getElem? (i := 2) rfl), mw_229 _ (List.mem_of_getElem? (i := 3) rfl), 12, _, rfl, rfl, rfl, by decide, by decide⟩, fun z => absurd z (by decide), fun z => absurd z (by decide)⟩
set_option maxRecDepth 100000 in
theorem mw_230 : ∀ w ∈ ([am_cd mt_230, .initialized mt_230.1.cls, .instanceMethod mt_230.1, .selects mt_230.1.cls mt_230.1 mt_230.1] : List Cond), w ∈ am_TB := am_inTB [1944, 135, 1943, 104] rfl rfl
set_option maxRecDepth 100000 in
theorem mf_230 : am_mf am_MT am_mk 230 := ⟨⟨mw_230 _ (List.mem_of_getElem? (i := 0) rfl), mw_230 _ (List.mem_of_getElem? (i := 1) rfl), by decide +kernel, by decide +kernel, by decide⟩, by decide +kernel, fun z => ⟨mw_230 _ (List.mem_of_getElem? (i := 2) rfl), mw_230 _ (List.mem_of_getElem? (i := 3) rfl), 12, _, rfl, rfl, rfl, by decide, by decide⟩, fun z => absurd z (by decide), fun z => absurd z (by decide)⟩
set_option maxRecDepth 100000 in
theorem mw_231 : ∀ w ∈ ([am_cd mt_231, .initialized mt_231.1.cls, .instanceMethod mt_231.1, .selects mt_231.1.cls mt_231.1 mt_231.1] : List Cond), w ∈ am_TB := am_inTB [1948, 135, 1947, 105] rfl rfl
set_option maxRecDepth 100000 in
theorem mf_231 : am_mf am_MT am_mk 231 := ⟨⟨mw_231 _ (List.mem_of_getElem? (i := 0) rfl), mw_231 _ (List.mem_of_getElem? (i := 1) rfl), by decide +kernel, by decide +kernel, by decide⟩, by decide +kernel, fun z => ⟨mw_231 _ (List.mem_of_getElem? (i := 2) rfl), mw_231 _ (List.mem_of_getElem? (i := 3) rfl), 12, _, rfl, rfl, rfl, by decide, by decide⟩, fun z => absurd z (by decide), fun z => absurd z (by decide)⟩
set_option maxRecDepth 100000 in
theorem mw_232 : ∀ w ∈ ([am_cd mt_232, .initialized mt_232.1.cls, .instanceMethod mt_232.1, .selects mt_232.1.cls mt_232.1 mt_232.1] : List Cond), w ∈ am_TB := am_inTB [1940, 135, 1938, 1939] rfl rfl
set_option maxRecDepth 100000 in
theorem mf_232 : am_mf am_MT am_mk 232 := ⟨⟨mw_232 _ (List.mem_of_getElem? (i := 0) rfl), mw_232 _ (List.mem_of_getElem? (i := 1) rfl), by decide +kernel, by decide +kernel, by decide⟩, by decide +kernel, fun z => ⟨mw_232 _ (List.mem_of_getElem? (i := 2) rfl), mw_232 _ (List.mem_of_getElem? (i := 3) rfl), 12, _, rfl, rfl, rfl, by decide, by decide⟩, fun z => absurd z (by decide), fun z => absurd z (by decide)⟩
set_option maxRecDepth 100000 in
theorem mw_233 : ∀ w ∈ ([am_cd mt_233, .initialized mt_233.1.cls, .instanceMethod mt_233.1, .selects mt_233.1.cls mt_233.1 mt_233.1] : List Cond), w ∈ am_TB := am_inTB [1952, 135, 1950, 1951] rfl rfl
set_option maxRecDepth 100000 in
theorem mf_233 : am_mf am_MT am_mk 233 := ⟨⟨mw_233 _ (List.mem_of_getElem? (i := 0) rfl), mw_233 _ (List.mem_of_getElem? (i := 1) rfl), by decide +kernel, by decide +kernel, by decide⟩, by decide +kernel, fun z => ⟨mw_233 _ (List.mem_of_getElem? (i := 2) rfl), mw_233 _ (List.mem_of_getElem? (i := 3) rfl), 12, _, rfl, rfl, rfl, by decide, by decide⟩, fun z => absurd z (by decide), fun z => absurd z (by decide)⟩
set_option maxRecDepth 100000 in
theorem mw_234 : ∀ w ∈ ([am_cd mt_234, .initialized mt_234.1.cls, .instanceMethod mt_234.1, .selects mt_234.1.cls mt_234.1 mt_234.1] : List Cond), w ∈ am_TB := am_inTB [1956, 135, 1954, 1955] rfl rfl
set_option maxRecDepth 100000 in
theorem mf_234 : am_mf am_MT am_mk 234 := ⟨⟨mw_234 _ (List.mem_of_getElem? (i := 0) rfl), mw_234 _ (List.mem_of_getElem? (i := 1) rfl), by decide +kernel, by decide +kernel, by decide⟩, by decide +kernel, fun z => ⟨mw_234 _ (List.mem_of_getElem? (i := 2) rfl), mw_234 _ (List.mem_of_getElem? (i := 3) rfl), 12, _, rfl, rfl, rfl, by decide, by decide⟩, fun z => absurd z (by decide), fun z => absurd z (by decide)⟩
set_option maxRecDepth 100000 in
theorem mw_235 : ∀ w ∈ ([am_cd mt_235, .initialized mt_235.1.cls, .instanceMethod mt_235.1, .selects mt_235.1.cls mt_235.1 mt_235.1] : List Cond), w ∈ am_TB := am_inTB [1968, 135, 1967, 107] rfl rfl
set_option maxRecDepth 100000 in
theorem mf_235 : am_mf am_MT am_mk 235 := ⟨⟨mw_235 _ (List.mem_of_getElem? (i := 0) rfl), mw_235 _ (List.mem_of_getElem? (i := 1) rfl), by decide +kernel, by decide +kernel, by decide⟩, by decide +kernel, fun z => ⟨mw_235 _ (List.mem_of_getElem? (i := 2) rfl), mw_235 _ (List.mem_of_getElem? (i := 3) rfl), 12, _, rfl, rfl, rfl, by decide, by decide⟩, fun z => absurd z (by decide), fun z => absurd z (by decide)⟩
set_option maxRecDepth 100000 in
theorem mw_236 : ∀ w ∈ ([am_cd mt_236, .initialized mt_236.1.cls, .instanceMethod mt_236.1, .selects mt_236.1.cls mt_236.1 mt_236.1] : List Cond), w ∈ am_TB := am_inTB [1964, 135, 1963, 106] rfl rfl
set_option maxRecDepth 100000 in
theorem mf_236 : am_mf am_MT am_mk 236 := ⟨⟨mw_236 _ (List.mem_of_getElem? (i := 0) rfl), mw_236 _ (List.mem_of_getElem? (i := 1) rfl), by decide +kernel, by decide +kernel, by decide⟩, by decide +kernel, fun z => ⟨mw_236 _ (List.mem_of_getElem? (i := 2) rfl), mw_236 _ (List.mem_of_getElem? (i := 3) rfl), 12, _, rfl, rfl, rfl, by decide, by decide⟩, fun z => absurd z (by decide), fun z => absurd z (by decide)⟩
set_option maxRecDepth 100000 in
theorem mw_237 : ∀ w ∈ ([am_cd mt_237, .initialized mt_237.1.cls, .instanceMethod mt_237.1, .selects mt_237.1.cls mt_237.1 mt_237.1] : List Cond), w ∈ am_TB := am_inTB [1960, 135, 1958, 1959] rfl rfl
set_option maxRecDepth 100000 in
theorem mf_237 : am_mf am_MT am_mk 237 := ⟨⟨mw_237 _ (List.mem_of_getElem? (i := 0) rfl), mw_237 _ (List.mem_of_getElem? (i := 1) rfl), by decide +kernel, by decide +kernel, by decide⟩, by decide +kernel, fun z => ⟨mw_237 _ (List.mem_of_getElem? (i := 2) rfl), mw_237 _ (List.mem_of_getElem? (i := 3) rfl), 12, _, rfl, rfl, rfl, by decide, by decide⟩, fun z => absurd z (by decide), fun z => absurd z (by decide)⟩
set_option maxRecDepth 100000 in
theorem mw_238 : ∀ w ∈ ([am_cd mt_238, .initialized mt_238.1.cls, .instanceMethod mt_238.1, .selects mt_238.1.cls mt_238.1 mt_238.1] : List Cond), w ∈ am_TB := am_inTB [1972, 135, 1970, 1971] rfl rfl
set_option maxRecDepth 100000 in
theorem mf_238 : am_mf am_MT am_mk 238 := ⟨⟨mw_238 _ (List.mem_of_getElem? (i := 0) rfl), mw_238 _ (List.mem_of_getElem? (i := 1) rfl), by decide +kernel, by decide +kernel, by decide⟩, by decide +kernel, fun z => ⟨mw_238 _ (List.mem_of_getElem? (i := 2) rfl), mw_238 _ (List.mem_of_getElem? (i := 3) rfl), 12, _, rfl, rfl, rfl, by decide, by decide⟩, fun z => absurd z (by decide), fun z => absurd z (by decide)⟩
set_option maxRecDepth 100000 in
theorem mw_239 : ∀ w ∈ ([am_cd mt_239, .initialized mt_239.1.cls, .instanceMethod mt_239.1, .selects mt_239.1.cls mt_239.1 mt_239.1] : List Cond), w ∈ am_TB := am_inTB [1980, 135, 1979, 108] rfl rfl
set_option maxRecDepth 100000 in
theorem mf_239 : am_mf am_MT am_mk 239 := ⟨⟨mw_239 _ (List.mem_of_getElem? (i := 0) rfl), mw_239 _ (List.mem_of_getElem? (i := 1) rfl), by decide +kernel, by decide +kernel, by decide⟩, by decide +kernel, fun z => ⟨mw_239 _ (List.mem_of_getElem? (i := 2) rfl), mw_239 _ (List.mem_of_getElem? (i := 3) rfl), 12, _, rfl, rfl, rfl, by decide, by decide⟩, fun z => absurd z (by decide), fun z => absurd z (by decide)⟩
set_option maxRecDepth 100000 in
theorem mw_240 : ∀ w ∈ ([am_cd mt_240, .initialized mt_240.1.cls, .instanceMethod mt_240.1, .selects mt_240.1.cls mt_240.1 mt_240.1] : List Cond), w ∈ am_TB := am_inTB [1976, 135, 1974, 1975] rfl rfl
set_option maxRecDepth 100000 in
theorem mf_240 : am_mf am_MT am_mk 240 := ⟨⟨mw_240 _ (List.mem_of_getElem? (i := 0) rfl), mw_240 _ (List.mem_of_getElem? (i := 1) rfl), by decide +kernel, by decide +kernel, by decide⟩, by decide +kernel, fun z => ⟨mw_240 _ (List.mem_of_getElem? (i := 2) rfl), mw_240 _ (List.mem_of_getElem? (i := 3) rfl), 12, _, rfl, rfl, rfl, by decide, by decide⟩, fun z => absurd z (by decide), fun z => absurd z (by decide)⟩
set_option maxRecDepth 100000 in
theorem mw_241 : ∀ w ∈ ([am_cd mt_241, .initialized mt_241.1.cls, .instanceMethod mt_241.1, .selects mt_241.1.cls mt_241.1 mt_241.1] : List Cond), w ∈ am_TB := am_inTB [1984, 135, 1982, 1983] rfl rfl
set_option maxRecDepth 100000 in
theorem mf_241 : am_mf am_MT am_mk 241 := ⟨⟨mw_241 _ (List.mem_of_getElem? (i := 0) rfl), mw_241 _ (List.mem_of_getElem? (i := 1) rfl), by decide +kernel, by decide +kernel, by decide⟩, by decide +kernel, fun z => ⟨mw_241 _ (List.mem_of_getElem? (i := 2) rfl), mw_241 _ (List.mem_of_getElem? (i := 3) rfl), 12, _, rfl, rfl, rfl, by decide, by decide⟩, fun z => absurd z (by decide), fun z => absurd z (by decide)⟩
set_option maxRecDepth 100000 in
theorem mw_242 : ∀ w ∈ ([am_cd mt_242, .initialized mt_242.1.cls, .instanceMethod mt_242.1, .selects mt_242.1.cls mt_242.1 mt_242.1] : List Cond), w ∈ am_TB := am_inTB [2000, 135, 1999, 111] rfl rfl
set_option maxRecDepth 100000 in
theorem mf_242 : am_mf am_MT am_mk 242 := ⟨⟨mw_242 _ (List.mem_of_getElem? (i := 0) rfl), mw_242 _ (List.mem_of_getElem? (i := 1) rfl), by decide +kernel, by decide +kernel, by decide⟩, by decide +kernel, fun z => ⟨mw_242 _ (List.mem_of_getElem? (i := 2) rfl), mw_242 _ (List.mem_of_getElem? (i := 3) rfl), 12, _, rfl, rfl, rfl, by decide, by decide⟩, fun z => absurd z (by decide), fun z => absurd z (by decide)⟩
set_option maxRecDepth 100000 in
theorem mw_243 : ∀ w ∈ ([am_cd mt_243, .initialized mt_243.1.cls, .instanceMethod mt_243.1, .selects mt_243.1.cls mt_243.1 mt_243.1] : List Cond), w ∈ am_TB := am_inTB [1992, 135, 1991, 109] rfl rfl
set_option maxRecDepth 100000 in
theorem mf_243 : am_mf am_MT am_mk 243 := ⟨⟨mw_243 _ (List.mem_of_getElem? (i := 0) rfl), mw_243 _ (List.mem_of_getElem? (i := 1) rfl), by decide +kernel, by decide +kernel, by decide⟩, by decide +kernel, fun z => ⟨mw_243 _ (List.mem_of_getElem? (i := 2) rfl), mw_243 _ (List.mem_of_getElem? (i := 3) rfl), 12, _, rfl, rfl, rfl, by decide, by decide⟩, fun z => absurd z (by decide), fun z => absurd z (by decide)⟩
set_option maxRecDepth 100000 in
theorem mw_244 : ∀ w ∈ ([am_cd mt_244, .initialized mt_244.1.cls, .instanceMethod mt_244.1, .selects mt_244.1.cls mt_244.1 mt_244.1] : List Cond), w ∈ am_TB := am_inTB [1996, 135, 1995, 110] rfl rfl
set_option maxRecDepth 100000 in
theorem mf_244 : am_mf am_MT am_mk 244 := ⟨⟨mw_244 _ (List.mem_of_getElem? (i := 0) rfl), mw_244 _ (List.mem_of_getElem? (i := 1) rfl), by decide +kernel, by decide +kernel, by decide⟩, by decide +kernel, fun z => ⟨mw_244 _ (List.mem_of_getElem? (i := 2) rfl), mw_244 _ (List.mem_of_getElem? (i := 3) rfl), 12, _, rfl, rfl, rfl, by decide, by decide⟩, fun z => absurd z (by decide), fun z => absurd z (by decide)⟩
set_option maxRecDepth 100000 in
theorem mw_245 : ∀ w ∈ ([am_cd mt_245, .initialized mt_245.1.cls, .instanceMethod mt_245.1, .selects mt_245.1.cls mt_245.1 mt_245.1] : List Cond), w ∈ am_TB := am_inTB [1988, 135, 1986, 1987] rfl rfl
set_option maxRecDepth 100000 in
theorem mf_245 : am_mf am_MT am_mk 245 := ⟨⟨mw_245 _ (List.mem_of_getElem? (i := 0) rfl), mw_245 _ (List.mem_of_getElem? (i := 1) rfl), by decide +kernel, by decide +kernel, by decide⟩, by decide +kernel, fun z => ⟨mw_245 _ (List.mem_of_getElem? (i := 2) rfl), mw_245 _ (List.mem_of_getElem? (i := 3) rfl), 12, _, rfl, rfl, rfl, by decide, by decide⟩, fun z => absurd z (by decide), fun z => absurd z (by decide)⟩
set_option maxRecDepth 100000 in
theorem mw_246 : ∀ w ∈ ([am_cd mt_246, .initialized mt_246.1.cls, .instanceMethod mt_246.1, .selects mt_246.1.cls mt_246.1 mt_246.1] : List Cond), w ∈ am_TB := am_inTB [2005, 135, 2003, 2004] rfl rfl
set_option maxRecDepth 100000 in
theorem mf_246 : am_mf am_MT am_mk 246 := ⟨⟨mw_246 _ (List.mem_of_getElem? (i := 0) rfl), mw_246 _ (List.mem_of_getElem? (i := 1) rfl), by decide +kernel, by decide +kernel, by decide⟩, by decide +kernel, fun z => ⟨mw_246 _ (List.mem_of_getElem? (i := 2) rfl), mw_246 _ (List.mem_of_getElem? (i := 3) rfl), 12, _, rfl, rfl, rfl, by decide, by decide⟩, fun z => absurd z (by decide), fun z => absurd z (by decide)⟩
set_option maxRecDepth 100000 in
theorem mw_247 : ∀ w ∈ ([am_cd mt_247, .initialized mt_247.1.cls, .instanceMethod mt_247.1, .selects mt_247.1.cls mt_247.1 mt_247.1] : List Cond), w ∈ am_TB := am_inTB [2013, 135, 2012, 112] rfl rfl
set_option maxRecDepth 100000 in
theorem mf_247 : am_mf am_MT am_mk 247 := ⟨⟨mw_247 _ (List.mem_of_getElem? (i := 0) rfl), mw_247 _ (List.mem_of_getElem? (i := 1) rfl), by decide +kernel, by decide +kernel, by decide⟩, by decide +kernel, fun z => ⟨mw_247 _ (List.mem_of_getElem? (i := 2) rfl), mw_247 _ (List.mem_of_getElem? (i := 3) rfl), 12, _, rfl, rfl, rfl, by decide, by decide⟩, fun z => absurd z (by decide), fun z => absurd z (by decide)⟩
set_option maxRecDepth 100000 in
theorem mw_248 : ∀ w ∈ ([am_cd mt_248, .initialized mt_248.1.cls, .instanceMethod mt_248.1, .selects mt_248.1.cls mt_248.1 mt_248.1] : List Cond), w ∈ am_TB := am_inTB [2009, 135, 2007, 2008] rfl rfl
set_option maxRecDepth 100000 in
theorem mf_248 : am_mf am_MT am_mk 248 := ⟨⟨mw_248 _ (List.mem_of_getElem? (i := 0) rfl), mw_248 _ (List.mem_of_getElem? (i := 1) rfl), by decide +kernel, by decide +kernel, by decide⟩, by decide +kernel, fun z => ⟨mw_248 _ (List.mem_of_getElem? (i := 2) rfl), mw_248 _ (List.mem_of_getElem? (i := 3) rfl), 12, _, rfl, rfl, rfl, by decide, by decide⟩, fun z => absurd z (by decide), fun z => absurd z (by decide)⟩
set_option maxRecDepth 100000 in
theorem mw_249 : ∀ w ∈ ([am_cd mt_249, .initialized mt_249.1.cls, .instanceMethod mt_249.1, .selects mt_249.1.cls mt_249.1 mt_249.1] : List Cond), w ∈ am_TB := am_inTB [2024, 135, 2023, 113] rfl rfl
set_option maxRecDepth 100000 in
theorem mf_249 : am_mf am_MT am_mk 249 := ⟨⟨mw_249 _ (List.mem_of_getElem? (i := 0) rfl), mw_249 _ (List.mem_of_getElem? (i := 1) rfl), by decide +kernel, by decide +kernel, by decide⟩, by decide +kernel, fun z => ⟨mw_249 _ (List.mem_of_getElem? (i := 2) rfl), mw_249 _ (List.mem_of_getElem? (i := 3) rfl), 12, _, rfl, rfl, rfl, by decide, by decide⟩, fun z => absurd z (by decide), fun z => absurd z (by decide)⟩
set_option maxRecDepth 100000 in
theorem mw_250 : ∀ w ∈ ([am_cd mt_250, .initialized mt_250.1.cls, .instanceMethod mt_250.1, .selects mt_250.1.cls mt_250.1 mt_250.1] : List Cond), w ∈ am_TB := am_inTB [2020, 135, 2018, 2019] rfl rfl
set_option maxRecDepth 100000 in
theorem mf_250 : am_mf am_MT am_mk 250 := ⟨⟨mw_250 _ (List.mem_of_getElem? (i := 0) rfl), mw_250 _ (List.mem_of_getElem? (i := 1) rfl), by decide +kernel, by decide +kernel, by decide⟩, by decide +kernel, fun z => ⟨mw_250 _ (List.mem_of_getElem? (i := 2) rfl), mw_250 _ (List.mem_of_getElem? (i := 3) rfl), 12, _, rfl, rfl, rfl, by decide, by decide⟩, fun z => absurd z (by decide), fun z => absurd z (by decide)⟩
set_option maxRecDepth 100000 in
theorem mw_251 : ∀ w ∈ ([am_cd mt_251, .initialized mt_251.1.cls, .instanceMethod mt_251.1, .selects mt_251.1.cls mt_251.1 mt_251.1] : List Cond), w ∈ am_TB := am_inTB [2028, 135, 2026, 2027] rfl rfl
set_option maxRecDepth 100000 in
theorem mf_251 : am_mf am_MT am_mk 251 := ⟨⟨mw_251 _ (List.mem_of_getElem? (i := 0) rfl), mw_251 _ (List.mem_of_getElem? (i := 1) rfl), by decide +kernel, by decide +kernel, by decide⟩, by decide +kernel, fun z => ⟨mw_251 _ (List.mem_of_getElem? (i := 2) rfl), mw_251 _ (List.mem_of_getElem? (i := 3) rfl), 12, _, rfl, rfl, rfl, by decide, by decide⟩, fun z => absurd z (by decide), fun z => absurd z (by decide)⟩
set_option maxRecDepth 100000 in
theorem mw_252 : ∀ w ∈ ([am_cd mt_252, .initialized mt_252.1.cls, .instanceMethod mt_252.1, .selects mt_252.1.cls mt_252.1 mt_252.1] : List Cond), w ∈ am_TB := am_inTB [2035, 135, 2033, 2034] rfl rfl
set_option maxRecDepth 100000 in
theorem mf_252 : am_mf am_MT am_mk 252 := ⟨⟨mw_252 _ (List.mem_of_getElem? (i := 0) rfl), mw_252 _ (List.mem_of_getElem? (i := 1) rfl), by decide +kernel, by decide +kernel, by decide⟩, by decide +kernel, fun z => ⟨mw_252 _ (List.mem_of_getElem? (i := 2) rfl), mw_252 _ (List.mem_of_getElem? (i := 3) rfl), 12, _, rfl, rfl, rfl, by decide, by decide⟩, fun z => absurd z (by decide), fun z => absurd z (by decide)⟩
set_option maxRecDepth 100000 in
theorem mw_253 : ∀ w ∈ ([am_cd mt_253, .initialized mt_253.1.cls, .instanceMethod mt_253.1, .selects mt_253.1.cls mt_253.1 mt_253.1] : List Cond), w ∈ am_TB := am_inTB [2043, 135, 2042, 114] rfl rfl
set_option maxRecDepth 100000 in
theorem mf_253 : am_mf am_MT am_mk 253 := ⟨⟨mw_253 _ (List.mem_of_getElem? (i := 0) rfl), mw_253 _ (List.mem_of_getElem? (i := 1) rfl), by decide +kernel, by decide +kernel, by decide⟩, by decide +kernel, fun z => ⟨mw_253 _ (List.mem_of_getElem? (i := 2) rfl), mw_253 _ (List.mem_of_getElem? (i := 3) rfl), 12, _, rfl, rfl, rfl, by decide, by decide⟩, fun z => absurd z (by decide), fun z => absurd z (by decide)⟩
set_option maxRecDepth 100000 in
theorem mw_254 : ∀ w ∈ ([am_cd mt_254, .initialized mt_254.1.cls, .instanceMethod mt_254.1, .selects mt_254.1.cls mt_254.1 mt_254.1] : List Cond), w ∈ am_TB := am_inTB [2047, 135, 2046, 115] rfl rfl
set_option maxRecDepth 100000 in
theorem mf_254 : am_mf am_MT am_mk 254 := ⟨⟨mw_254 _ (List.mem_of_getElem? (i := 0) rfl), mw_254 _ (List.mem_of_getElem? (i := 1) rfl), by decide +kernel, by decide +kernel, by decide⟩, by decide +kernel, fun z => ⟨mw_254 _ (List.mem_of_getElem? (i := 2) rfl), mw_254 _ (List.mem_of_getElem? (i := 3) rfl), 12, _, rfl, rfl, rfl, by decide, by decide⟩, fun z => absurd z (by decide), fun z => absurd z (by decide)⟩
set_option maxRecDepth 100000 in
theorem mw_255 : ∀ w ∈ ([am_cd mt_255, .initialized mt_255.1.cls, .instanceMethod mt_255.1, .selects mt_255.1.cls mt_255.1 mt_255.1] : List Cond), w ∈ am_TB := am_inTB [2039, 135, 2037, 2038] rfl rfl
set_option maxRecDepth 100000 in
theorem mf_255 : am_mf am_MT am_mk 255 := ⟨⟨mw_255 _ (List.mem_of_getElem? (i := 0) rfl), mw_255 _ (List.mem_of_getElem? (i := 1) rfl), by decide +kernel, by decide +kernel, by decide⟩, by decide +kernel, fun z => ⟨mw_255 _ (List.mem_of_getElem? (i := 2) rfl), mw_255 _ (List.mem_of_getElem? (i := 3) rfl), 12, _, rfl, rfl, rfl, by decide, by decide⟩, fun z => absurd z (by decide), fun z => absurd z (by decide)⟩
set_option maxRecDepth 100000 in
theorem mw_256 : ∀ w ∈ ([am_cd mt_256, .initialized mt_256.1.cls, .instanceMethod mt_256.1, .selects mt_256.1.cls mt_256.1 mt_256.1] : List Cond), w ∈ am_TB := am_inTB [2055, 135, 2054, 116] rfl rfl
set_option maxRecDepth 100000 in
theorem mf_256 : am_mf am_MT am_mk 256 := ⟨⟨mw_256 _ (List.mem_of_getElem? (i := 0) rfl), mw_256 _ (List.mem_of_getElem? (i := 1) rfl), by decide +kernel, by decide +kernel, by decide⟩, by decide +kernel, fun z => ⟨mw_256 _ (List.mem_of_getElem? (i := 2) rfl), mw_256 _ (List.mem_of_getElem? (i := 3) rfl), 12, _, rfl, rfl, rfl, by decide, by decide⟩, fun z => absurd z (by decide), fun z => absurd z (by decide)⟩
set_option maxRecDepth 100000 in
theorem mw_257 : ∀ w ∈ ([am_cd mt_257, .initialized mt_257.1.cls, .instanceMethod mt_257.1, .selects mt_257.1.cls mt_257.1 mt_257.1] : List Cond), w ∈ am_TB := am_inTB [2051, 135, 2049, 2050] rfl rfl
set_option maxRecDepth 100000 in
theorem mf_257 : am_mf am_MT am_mk 257 := ⟨⟨mw_257 _ (List.mem_of_getElem? (i := 0) rfl), mw_257 _ (List.mem_of_getElem? (i := 1) rfl), by decide +kernel, by decide +kernel, by decide⟩, by decide +kernel, fun z => ⟨mw_257 _ (List.mem_of_getElem? (i := 2) rfl), mw_257 _ (List.mem_of_getElem? (i := 3) rfl), 12, _, rfl, rfl, rfl, by decide, by decide⟩, fun z => absurd z (by decide), fun z => absurd z (by decide)⟩
set_option maxRecDepth 100000 in
theorem mw_258 : ∀ w ∈ ([am_cd mt_258, .initialized mt_258.1.cls, .instanceMethod mt_258.1, .selects mt_258.1.cls mt_258.1 mt_258.1] : List Cond), w ∈ am_TB := am_inTB [2063, 135, 2062, 117] rfl rfl
set_option maxRecDepth 100000 in
theorem mf_258 : am_mf am_MT am_mk 258 := ⟨⟨mw_258 _ (List.mem_of_getElem? (i := 0) rfl), mw_258 _ (List.mem_of_getElem? (i := 1) rfl), by decide +kernel, by decide +kernel, by decide⟩, by decide +kernel, fun z => ⟨mw_258 _ (List.mem_of_getElem? (i := 2) rfl), mw_258 _ (List.mem_of_getElem? (i := 3) rfl), 12, _, rfl, rfl, rfl, by decide, by decide⟩, fun z => absurd z (by decide), fun z => absurd z (by decide)⟩
set_option maxRecDepth 100000 in
theorem mw_259 : ∀ w ∈ ([am_cd mt_259, .initialized mt_259.1.cls, .instanceMethod mt_259.1, .selects mt_259.1.cls mt_259.1 mt_259.1] : List Cond), w ∈ am_TB := am_inTB [2059, 135, 2057, 2058] rfl rfl
set_option maxRecDepth 100000 in
theorem mf_259 : am_mf am_MT am_mk 259 := ⟨⟨mw_259 _ (List.mem_of_getElem? (i := 0) rfl), mw_259 _ (List.mem_of_getElem? (i := 1) rfl), by decide +kernel, by decide +kernel, by decide⟩, by decide +kernel, fun z => ⟨mw_259 _ (List.mem_of_getElem? (i := 2) rfl), mw_259 _ (List.mem_of_getElem? (i := 3) rfl), 12, _, rfl, rfl, rfl, by decide, by decide⟩, fun z => absurd z (by decide), fun z => absurd z (by decide)⟩
set_option maxRecDepth 100000 in
theorem mw_260 : ∀ w ∈ ([am_cd mt_260, .initialized mt_260.1.cls, .instanceMethod mt_260.1, .selects mt_260.1.cls mt_260.1 mt_260.1] : List Cond), w ∈ am_TB := am_inTB [2075, 135, 2074, 119] rfl rfl
set_option maxRecDepth 100000 in
theorem mf_260 : am_mf am_MT am_mk 260 := ⟨⟨mw_260 _ (List.mem_of_getElem? (i := 0) rfl), mw_260 _ (List.mem_of_getElem? (i := 1) rfl), by decide +kernel, by decide +kernel, by decide⟩, by decide +kernel, fun z => ⟨mw_260 _ (List.mem_of_getElem? (i := 2) rfl), mw_260 _ (List.mem_of_getElem? (i := 3) rfl), 12, _, rfl, rfl, rfl, by decide, by decide⟩, fun z => absurd z (by decide), fun z => absurd z (by decide)⟩
set_option maxRecDepth 100000 in
theorem mw_261 : ∀ w ∈ ([am_cd mt_261, .initialized mt_261.1.cls, .instanceMethod mt_261.1, .selects mt_261.1.cls mt_261.1 mt_261.1] : List Cond), w ∈ am_TB := am_inTB [2071, 135, 2070, 118] rfl rfl
set_option maxRecDepth 100000 in
theorem mf_261 : am_mf am_MT am_mk 261 := ⟨⟨mw_261 _ (List.mem_of_getElem? (i := 0) rfl), mw_261 _ (List.mem_of_getElem? (i := 1) rfl), by decide +kernel, by decide +kernel, by decide⟩, by decide +kernel, fun z => ⟨mw_261 _ (List.mem_of_getElem? (i := 2) rfl), mw_261 _ (List.mem_of_getElem? (i := 3) rfl), 12, _, rfl, rfl, rfl, by decide, by decide⟩, fun z => absurd z (by decide), fun z => absurd z (by decide)⟩
set_option maxRecDepth 100000 in
theorem mw_262 : ∀ w ∈ ([am_cd mt_262, .initialized mt_262.1.cls, .instanceMethod mt_262.1, .selects mt_262.1.cls mt_262.1 mt_262.1] : List Cond), w ∈ am_TB := am_inTB [2067, 135, 2065, 2066] rfl rfl
set_option maxRecDepth 100000 in
theorem mf_262 : am_mf am_MT am_mk 262 := ⟨⟨mw_262 _ (List.mem_of_getElem? (i := 0) rfl), mw_262 _ (List.mem_of_getElem? (i := 1) rfl), by decide +kernel, by decide +kernel, by decide⟩, by decide +kernel, fun z => ⟨mw_262 _ (List.mem_of_getElem? (i := 2) rfl), mw_262 _ (List.mem_of_getElem? (i := 3) rfl), 12, _, rfl, rfl, rfl, by decide, by decide⟩, fun z => absurd z (by decide), fun z => absurd z (by decide)⟩
set_option maxRecDepth 100000 in
theorem mw_263 : ∀ w ∈ ([am_cd mt_263, .initialized mt_263.1.cls, .instanceMethod mt_263.1, .selects mt_263.1.cls mt_263.1 mt_263.1] : List Cond), w ∈ am_TB := am_inTB [2087, 135, 2086, 121] rfl rfl
set_option maxRecDepth 100000 in
theorem mf_263 : am_mf am_MT am_mk 263 := ⟨⟨mw_263 _ (List.mem_of_getElem? (i := 0) rfl), mw_263 _ (List.mem_of_getElem? (i := 1) rfl), by decide +kernel, by decide +kernel, by decide⟩, by decide +kernel, fun z => ⟨mw_263 _ (List.mem_of_getElem? (i := 2) rfl), mw_263 _ (List.mem_of_getElem? (i := 3) rfl), 12, _, rfl, rfl, rfl, by decide, by decide⟩, fun z => absurd z (by decide), fun z => absurd z (by decide)⟩
set_option maxRecDepth 100000 in
theorem mw_264 : ∀ w ∈ ([am_cd mt_264, .initialized mt_264.1.cls, .instanceMethod mt_264.1, .selects mt_264.1.cls mt_264.1 mt_264.1] : List Cond), w ∈ am_TB := am_inTB [2083, 135, 2082, 120] rfl rfl
set_option maxRecDepth 100000 in
theorem mf_264 : am_mf am_MT am_mk 264 := ⟨⟨mw_264 _ (List.mem_of_getElem? (i := 0) rfl), mw_264 _ (List.mem_of_getElem? (i := 1) rfl), by decide +kernel, by decide +kernel, by decide⟩, by decide +kernel, fun z => ⟨mw_264 _ (List.mem_of_getElem? (i := 2) rfl), mw_264 _ (List.mem_of_getElem? (i := 3) rfl), 12, _, rfl, rfl, rfl, by decide, by decide⟩, fun z => absurd z (by decide), fun z => absurd z (by decide)⟩
set_option maxRecDepth 100000 in
theorem mw_265 : ∀ w ∈ ([am_cd mt_265, .initialized mt_265.1.cls, .static mt_265.1] : List Cond), w ∈ am_TB := am_inTB [2094, 135, 2093] rfl rfl
set_option maxRecDepth 100000 in
theorem mf_265 : am_mf am_MT am_mk 265 := ⟨⟨mw_265 _ (List.mem_of_getElem? (i := 0) rfl), mw_265 _ (List.mem_of_getElem? (i := 1) rfl), by decide +kernel, by decide +kernel, by decide⟩, by decide +kernel, fun z => absurd z (by decide), fun _ => mw_265 _ (List.mem_of_getElem? (i := 2) rfl), fun z => absurd z (by decide)⟩
set_option maxRecDepth 100000 in
theorem mw_266 : ∀ w ∈ ([am_cd mt_266, .initialized mt_266.1.cls, .instanceMethod mt_266.1, .selects mt_266.1.cls mt_266.1 mt_266.1] : List Cond), w ∈ am_TB := am_inTB [2079, 135, 2077, 2078] rfl rfl
set_option maxRecDepth 100000 in
theorem mf_266 : am_mf am_MT am_mk 266 := ⟨⟨mw_266 _ (List.mem_of_getElem? (i := 0) rfl), mw_266 _ (List.mem_of_getElem? (i := 1) rfl), by decide +kernel, by decide +kernel, by decide⟩, by decide +kernel, fun z => ⟨mw_266 _ (List.mem_of_getElem? (i := 2) rfl), mw_266 _ (List.mem_of_getElem? (i := 3) rfl), 12, _, rfl, rfl, rfl, by decide, by decide⟩, fun z => absurd z (by decide), fun z => absurd z (by decide)⟩
set_option maxRecDepth 100000 in
theorem mw_267 : ∀ w ∈ ([am_cd mt_267, .initialized mt_267.1.cls, .instanceMethod mt_267.1, .selects mt_267.1.cls mt_267.1 mt_267.1] : List Cond), w ∈ am_TB := am_inTB [2098, 135, 2096, 2097] rfl rfl
set_option maxRecDepth 100000 in
theorem mf_267 : am_mf am_MT am_mk 267 := ⟨⟨mw_267 _ (List.mem_of_getElem? (i := 0) rfl), mw_267 _ (List.mem_of_getElem? (i := 1) rfl), by decide +kernel, by decide +kernel, by decide⟩, by decide +kernel, fun z => ⟨mw_267 _ (List.mem_of_getElem? (i := 2) rfl), mw_267 _ (List.mem_of_getElem? (i := 3) rfl), 12, _, rfl, rfl, rfl, by decide, by decide⟩, fun z => absurd z (by decide), fun z => absurd z (by decide)⟩
set_option maxRecDepth 100000 in
theorem mw_268 : ∀ w ∈ ([am_cd mt_268, .initialized mt_268.1.cls, .instanceMethod mt_268.1, .selects mt_268.1.cls mt_268.1 mt_268.1] : List Cond), w ∈ am_TB := am_inTB [2106, 135, 2104, 2105] rfl rfl
set_option maxRecDepth 100000 in
theorem mf_268 : am_mf am_MT am_mk 268 := ⟨⟨mw_268 _ (List.mem_of_getElem? (i := 0) rfl), mw_268 _ (List.mem_of_getElem? (i := 1) rfl), by decide +kernel, by decide +kernel, by decide⟩, by decide +kernel, fun z => ⟨mw_268 _ (List.mem_of_getElem? (i := 2) rfl), mw_268 _ (List.mem_of_getElem? (i := 3) rfl), 12, _, rfl, rfl, rfl, by decide, by decide⟩, fun z => absurd z (by decide), fun z => absurd z (by decide)⟩
set_option maxRecDepth 100000 in
theorem mw_269 : ∀ w ∈ ([am_cd mt_269, .initialized mt_269.1.cls, .static mt_269.1] : List Cond), w ∈ am_TB := am_inTB [930, 139, 929] rfl rfl
set_option maxRecDepth 100000 in
theorem mf_269 : am_mf am_MT am_mk 269 := ⟨⟨mw_269 _ (List.mem_of_getElem? (i := 0) rfl), mw_269 _ (List.mem_of_getElem? (i := 1) rfl), by decide +kernel, by decide +kernel, by decide⟩, by decide +kernel, fun z => absurd z (by decide), fun _ => mw_269 _ (List.mem_of_getElem? (i := 2) rfl), fun z => absurd z (by decide)⟩
set_option maxRecDepth 100000 in
theorem mw_270 : ∀ w ∈ ([am_cd mt_270, .initialized mt_270.1.cls, .static mt_270.1] : List Cond), w ∈ am_TB := am_inTB [1145, 139, 1144] rfl rfl
set_option maxRecDepth 100000 in
theorem mf_270 : am_mf am_MT am_mk 270 := ⟨⟨mw_270 _ (List.mem_of_getElem? (i := 0) rfl), mw_270 _ (List.mem_of_getElem? (i := 1) rfl), by decide +kernel, by decide +kernel, by decide⟩, by decide +kernel, fun z => absurd z (by decide), fun _ => mw_270 _ (List.mem_of_getElem? (i := 2) rfl), fun z => absurd z (by decide)⟩
set_option maxRecDepth 100000 in
theorem mw_271 : ∀ w ∈ ([am_cd mt_271, .initialized mt_271.1.cls, .static mt_271.1] : List Cond), w ∈ am_TB := am_inTB [940, 139, 939] rfl rfl
set_option maxRecDepth 100000 in
theorem mf_271 : am_mf am_MT am_mk 271 := ⟨⟨mw_271 _ (List.mem_of_getElem? (i := 0) rfl), mw_271 _ (List.mem_of_getElem? (i := 1) rfl), by decide +kernel, by decide +kernel, by decide⟩, by decide +kernel, fun z => absurd z (by decide), fun _ => mw_271 _ (List.mem_of_getElem? (i := 2) rfl), fun z => absurd z (by decide)⟩
set_option maxRecDepth 100000 in
theorem mw_272 : ∀ w ∈ ([am_cd mt_272, .initialized mt_272.1.cls, .static mt_272.1] : List Cond), w ∈ am_TB := am_inTB [937, 139, 936] rfl rfl
set_option maxRecDepth 100000 in
theorem mf_272 : am_mf am_MT am_mk 272 := ⟨⟨mw_272 _ (List.mem_of_getElem? (i := 0) rfl), mw_272 _ (List.mem_of_getElem? (i := 1) rfl), by decide +kernel, by decide +kernel, by decide⟩, by decide +kernel, fun z => absurd z (by decide), fun _ => mw_272 _ (List.mem_of_getElem? (i := 2) rfl), fun z => absurd z (by decide)⟩
theorem am_stepN {P : Nat → Prop} {a b : Nat} (h : P a) (h2 : ∀ m, a + 1 ≤ m → m < b → P m) : ∀ m, a ≤ m → m < b → P m := fun m h1 hb => by
  by_cases e : m = a
  · exact e ▸ h
  · exact h2 m (by omega) hb
set_option maxRecDepth 100000 in
theorem mfc_0 : ∀ m, 0 ≤ m → m < 25 → (am_mk m).1 ≤ 2 → am_mf am_MT am_mk m := am_stepN (a := 0) (b := 25) (fun _ => mf_0) (am_stepN (a := 1) (b := 25) (fun _ => mf_1) (am_stepN (a := 2) (b := 25) (fun _ => mf_2) (am_stepN (a := 3) (b := 25) (fun _ => mf_3) (am_stepN (a := 4) (b := 25) (fun _ => mf_4) (am_stepN (a := 5) (b := 25) (fun _ => mf_5) (am_stepN (a := 6) (b := 25) (fun _ => mf_6) (am_stepN (a := 7) (b := 25) (fun _ => mf_7) (am_stepN (a := 8) (b := 25) (fun _ => mf_8) (am_stepN (a := 9) (b := 25) (fun _ => mf_9) (am_stepN (a := 10) (b := 25) (fun _ => mf_10) (am_stepN (a := 11) (b := 25) (fun _ => mf_11) (am_stepN (a := 12) (b := 25) (fun _ => mf_12) (am_stepN (a := 13) (b := 25) (fun _ => mf_13) (am_stepN (a := 14) (b := 25) (fun _ => mf_14) (am_stepN (a := 15) (b := 25) (fun _ => mf_15) (am_stepN (a := 16) (b := 25) (fun _ => mf_16) (am_stepN (a := 17) (b := 25) (fun _ => mf_17) (am_stepN (a := 18) (b := 25) (fun _ => mf_18) (am_stepN (a := 19) (b := 25) (fun _ => mf_19) (am_stepN (a := 20) (b := 25) (fun _ => mf_20) (am_stepN (a := 21) (b := 25) (fun _ => mf_21) (am_stepN (a := 22) (b := 25) (fun _ => mf_22) (am_stepN (a := 23) (b := 25) (fun _ => mf_23) (am_stepN (a := 24) (b := 25) (fun _ => mf_24) (fun m h1 h2 => absurd h2 (by omega))))))))))))))))))))))))))
set_option maxRecDepth 100000 in
theorem mfc_25 : ∀ m, 25 ≤ m → m < 50 → (am_mk m).1 ≤ 2 → am_mf am_MT am_mk m := am_stepN (a := 25) (b := 50) (fun _ => mf_25) (am_stepN (a := 26) (b := 50) (fun _ => mf_26) (am_stepN (a := 27) (b := 50) (fun _ => mf_27) (am_stepN (a := 28) (b := 50) (fun _ => mf_28) (am_stepN (a := 29) (b := 50) (fun _ => mf_29) (am_stepN (a := 30) (b := 50) (fun _ => mf_30) (am_stepN (a := 31) (b := 50) (fun _ => mf_31) (am_stepN (a := 32) (b := 50) (fun _ => mf_32) (am_stepN (a := 33) (b := 50) (fun _ => mf_33) (am_stepN (a := 34) (b := 50) (fun _ => mf_34) (am_stepN (a := 35) (b := 50) (fun _ => mf_35) (am_stepN (a := 36) (b := 50) (fun _ => mf_36) (am_stepN (a := 37) (b := 50) (fun _ => mf_37) (am_stepN (a := 38) (b := 50) (fun _ => mf_38) (am_stepN (a := 39) (b := 50) (fun _ => mf_39) (am_stepN (a := 40) (b := 50) (fun _ => mf_40) (am_stepN (a := 41) (b := 50) (fun _ => mf_41) (am_stepN (a := 42) (b := 50) (fun _ => mf_42) (am_stepN (a := 43) (b := 50) (fun _ => mf_43) (am_stepN (a := 44) (b := 50) (fun _ => mf_44) (am_stepN (a := 45) (b := 50) (fun _ => mf_45) (am_stepN (a := 46) (b := 50) (fun _ => mf_46) (am_stepN (a := 47) (b := 50) (fun _ => mf_47) (am_stepN (a := 48) (b := 50) (fun _ => mf_48) (am_stepN (a := 49) (b := 50) (fun _ => mf_49) (fun m h1 h2 => absurd h2 (by omega))))))))))))))))))))))))))
set_option maxRecDepth 100000 in
theorem mfc_50 : ∀ m, 50 ≤ m → m < 75 → (am_mk m).1 ≤ 2 → am_mf am_MT am_mk m := am_stepN (a := 50) (b := 75) (fun _ => mf_50) (am_stepN (a := 51) (b := 75) (fun _ => mf_51) (am_stepN (a := 52) (b := 75) (fun _ => mf_52) (am_stepN (a := 53) (b := 75) (fun _ => mf_53) (am_stepN (a := 54) (b := 75) (fun _ => mf_54) (am_stepN (a := 55) (b := 75) (fun _ => mf_55) (am_stepN (a := 56) (b := 75) (fun _ => mf_56) (am_stepN (a := 57) (b := 75) (fun _ => mf_57) (am_stepN (a := 58) (b := 75) (fun _ => mf_58) (am_stepN (a := 59) (b := 75) (fun _ => mf_59) (am_stepN (a := 60) (b := 75) (fun _ => mf_60) (am_stepN (a := 61) (b := 75) (fun _ => mf_61) (am_stepN (a := 62) (b := 75) (fun _ => mf_62) (am_stepN (a := 63) (b := 75) (fun _ => mf_63) (am_stepN (a := 64) (b := 75) (fun _ => mf_64) (am_stepN (a := 65) (b := 75) (fun _ => mf_65) (am_stepN (a := 66) (b := 75) (fun _ => mf_66) (am_stepN (a := 67) (b := 75) (fun _ => mf_67) (am_stepN (a := 68) (b := 75) (fun _ => mf_68) (am_stepN (a := 69) (b := 75) (fun _ => mf_69) (am_stepN (a := 70) (b := 75) (fun _ => mf_70) (am_stepN (a := 71) (b := 75) (fun _ => mf_71) (am_stepN (a := 72) (b := 75) (fun _ => mf_72) (am_stepN (a := 73) (b := 75) (fun _ => mf_73) (am_stepN (a := 74) (b := 75) (fun _ => mf_74) (fun m h1 h2 => absurd h2 (by omega))))))))))))))))))))))))))
set_option maxRecDepth 100000 in
theorem mfc_75 : ∀ m, 75 ≤ m → m < 100 → (am_mk m).1 ≤ 2 → am_mf am_MT am_mk m := am_stepN (a := 75) (b := 100) (fun _ => mf_75) (am_stepN (a := 76) (b := 100) (fun _ => mf_76) (am_stepN (a := 77) (b := 100) (fun _ => mf_77) (am_stepN (a := 78) (b := 100) (fun _ => mf_78) (am_stepN (a := 79) (b := 100) (fun _ => mf_79) (am_stepN (a := 80) (b := 100) (fun _ => mf_80) (am_stepN (a := 81) (b := 100) (fun _ => mf_81) (am_stepN (a := 82) (b := 100) (fun _ => mf_82) (am_stepN (a := 83) (b := 100) (fun _ => mf_83) (am_stepN (a := 84) (b := 100) (fun _ => mf_84) (am_stepN (a := 85) (b := 100) (fun _ => mf_85) (am_stepN (a := 86) (b := 100) (fun _ => mf_86) (am_stepN (a := 87) (b := 100) (fun _ => mf_87) (am_stepN (a := 88) (b := 100) (fun _ => mf_88) (am_stepN (a := 89) (b := 100) (fun _ => mf_89) (am_stepN (a := 90) (b := 100) (fun _ => mf_90) (am_stepN (a := 91) (b := 100) (fun _ => mf_91) (am_stepN (a := 92) (b := 100) (fun _ => mf_92) (am_stepN (a := 93) (b := 100) (fun _ => mf_93) (am_stepN (a := 94) (b := 100) (fun _ => mf_94) (am_stepN (a := 95) (b := 100) (fun _ => mf_95) (am_stepN (a := 96) (b := 100) (fun _ => mf_96) (am_stepN (a := 97) (b := 100) (fun _ => mf_97) (am_stepN (a := 98) (b := 100) (fun _ => mf_98) (am_stepN (a := 99) (b := 100) (fun _ => mf_99) (fun m h1 h2 => absurd h2 (by omega))))))))))))))))))))))))))
set_option maxRecDepth 100000 in
theorem mfc_100 : ∀ m, 100 ≤ m → m < 125 → (am_mk m).1 ≤ 2 → am_mf am_MT am_mk m := am_stepN (a := 100) (b := 125) (fun _ => mf_100) (am_stepN (a := 101) (b := 125) (fun _ => mf_101) (am_stepN (a := 102) (b := 125) (fun _ => mf_102) (am_stepN (a := 103) (b := 125) (fun _ => mf_103) (am_stepN (a := 104) (b := 125) (fun _ => mf_104) (am_stepN (a := 105) (b := 125) (fun _ => mf_105) (am_stepN (a := 106) (b := 125) (fun _ => mf_106) (am_stepN (a := 107) (b := 125) (fun _ => mf_107) (am_stepN (a := 108) (b := 125) (fun _ => mf_108) (am_stepN (a := 109) (b := 125) (fun _ => mf_109) (am_stepN (a := 110) (b := 125) (fun _ => mf_110) (am_stepN (a := 111) (b := 125) (fun _ => mf_111) (am_stepN (a := 112) (b := 125) (fun _ => mf_112) (am_stepN (a := 113) (b := 125) (fun _ => mf_113) (am_stepN (a := 114) (b := 125) (fun _ => mf_114) (am_stepN (a := 115) (b := 125) (fun _ => mf_115) (am_stepN (a := 116) (b := 125) (fun _ => mf_116) (am_stepN (a := 117) (b := 125) (fun _ => mf_117) (am_stepN (a := 118) (b := 125) (fun _ => mf_118) (am_stepN (a := 119) (b := 125) (fun _ => mf_119) (am_stepN (a := 120) (b := 125) (fun _ => mf_120) (am_stepN (a := 121) (b := 125) (fun _ => mf_121) (am_stepN (a := 122) (b := 125) (fun _ => mf_122) (am_stepN (a := 123) (b := 125) (fun _ => mf_123) (am_stepN (a := 124) (b := 125) (fun _ => mf_124) (fun m h1 h2 => absurd h2 (by omega))))))))))))))))))))))))))
set_option maxRecDepth 100000 in
theorem mfc_125 : ∀ m, 125 ≤ m → m < 150 → (am_mk m).1 ≤ 2 → am_mf am_MT am_mk m := am_stepN (a := 125) (b := 150) (fun _ => mf_125) (am_stepN (a := 126) (b := 150) (fun _ => mf_126) (am_stepN (a := 127) (b := 150) (fun _ => mf_127) (am_stepN (a := 128) (b := 150) (fun _ => mf_128) (am_stepN (a := 129) (b := 150) (fun _ => mf_129) (am_stepN (a := 130) (b := 150) (fun _ => mf_130) (am_stepN (a := 131) (b := 150) (fun _ => mf_131) (am_stepN (a := 132) (b := 150) (fun _ => mf_132) (am_stepN (a := 133) (b := 150) (fun _ => mf_133) (am_stepN (a := 134) (b := 150) (fun _ => mf_134) (am_stepN (a := 135) (b := 150) (fun _ => mf_135) (am_stepN (a := 136) (b := 150) (fun _ => mf_136) (am_stepN (a := 137) (b := 150) (fun _ => mf_137) (am_stepN (a := 138) (b := 150) (fun _ => mf_138) (am_stepN (a := 139) (b := 150) (fun _ => mf_139) (am_stepN (a := 140) (b := 150) (fun _ => mf_140) (am_stepN (a := 141) (b := 150) (fun _ => mf_141) (am_stepN (a := 142) (b := 150) (fun _ => mf_142) (am_stepN (a := 143) (b := 150) (fun _ => mf_143) (am_stepN (a := 144) (b := 150) (fun _ => mf_144) (am_stepN (a := 145) (b := 150) (fun _ => mf_145) (am_stepN (a := 146) (b := 150) (fun _ => mf_146) (am_stepN (a := 147) (b := 150) (fun _ => mf_147) (am_stepN (a := 148) (b := 150) (fun _ => mf_148) (am_stepN (a := 149) (b := 150) (fun _ => mf_149) (fun m h1 h2 => absurd h2 (by omega))))))))))))))))))))))))))
set_option maxRecDepth 100000 in
theorem mfc_150 : ∀ m, 150 ≤ m → m < 175 → (am_mk m).1 ≤ 2 → am_mf am_MT am_mk m := am_stepN (a := 150) (b := 175) (fun _ => mf_150) (am_stepN (a := 151) (b := 175) (fun _ => mf_151) (am_stepN (a := 152) (b := 175) (fun _ => mf_152) (am_stepN (a := 153) (b := 175) (fun _ => mf_153) (am_stepN (a := 154) (b := 175) (fun _ => mf_154) (am_stepN (a := 155) (b := 175) (fun z => absurd z (by decide)) (am_stepN (a := 156) (b := 175) (fun _ => mf_156) (am_stepN (a := 157) (b := 175) (fun _ => mf_157) (am_stepN (a := 158) (b := 175) (fun _ => mf_158) (am_stepN (a := 159) (b := 175) (fun _ => mf_159) (am_stepN (a := 160) (b := 175) (fun _ => mf_160) (am_stepN (a := 161) (b := 175) (fun _ => mf_161) (am_stepN (a := 162) (b := 175) (fun _ => mf_162) (am_stepN (a := 163) (b := 175) (fun _ => mf_163) (am_stepN (a := 164) (b := 175) (fun _ => mf_164) (am_stepN (a := 165) (b := 175) (fun _ => mf_165) (am_stepN (a := 166) (b := 175) (fun _ => mf_166) (am_stepN (a := 167) (b := 175) (fun _ => mf_167) (am_stepN (a := 168) (b := 175) (fun _ => mf_168) (am_stepN (a := 169) (b := 175) (fun _ => mf_169) (am_stepN (a := 170) (b := 175) (fun _ => mf_170) (am_stepN (a := 171) (b := 175) (fun _ => mf_171) (am_stepN (a := 172) (b := 175) (fun _ => mf_172) (am_stepN (a := 173) (b := 175) (fun _ => mf_173) (am_stepN (a := 174) (b := 175) (fun _ => mf_174) (fun m h1 h2 => absurd h2 (by omega))))))))))))))))))))))))))
set_option maxRecDepth 100000 in
theorem mfc_175 : ∀ m, 175 ≤ m → m < 200 → (am_mk m).1 ≤ 2 → am_mf am_MT am_mk m := am_stepN (a := 175) (b := 200) (fun _ => mf_175) (am_stepN (a := 176) (b := 200) (fun _ => mf_176) (am_stepN (a := 177) (b := 200) (fun _ => mf_177) (am_stepN (a := 178) (b := 200) (fun _ => mf_178) (am_stepN (a := 179) (b := 200) (fun _ => mf_179) (am_stepN (a := 180) (b := 200) (fun _ => mf_180) (am_stepN (a := 181) (b := 200) (fun _ => mf_181) (am_stepN (a := 182) (b := 200) (fun _ => mf_182) (am_stepN (a := 183) (b := 200) (fun _ => mf_183) (am_stepN (a := 184) (b := 200) (fun _ => mf_184) (am_stepN (a := 185) (b := 200) (fun _ => mf_185) (am_stepN (a := 186) (b := 200) (fun _ => mf_186) (am_stepN (a := 187) (b := 200) (fun _ => mf_187) (am_stepN (a := 188) (b := 200) (fun _ => mf_188) (am_stepN (a := 189) (b := 200) (fun _ => mf_189) (am_stepN (a := 190) (b := 200) (fun _ => mf_190) (am_stepN (a := 191) (b := 200) (fun _ => mf_191) (am_stepN (a := 192) (b := 200) (fun _ => mf_192) (am_stepN (a := 193) (b := 200) (fun _ => mf_193) (am_stepN (a := 194) (b := 200) (fun _ => mf_194) (am_stepN (a := 195) (b := 200) (fun _ => mf_195) (am_stepN (a := 196) (b := 200) (fun _ => mf_196) (am_stepN (a := 197) (b := 200) (fun _ => mf_197) (am_stepN (a := 198) (b := 200) (fun _ => mf_198) (am_stepN (a := 199) (b := 200) (fun _ => mf_199) (fun m h1 h2 => absurd h2 (by omega))))))))))))))))))))))))))
set_option maxRecDepth 100000 in
theorem mfc_200 : ∀ m, 200 ≤ m → m < 225 → (am_mk m).1 ≤ 2 → am_mf am_MT am_mk m := am_stepN (a := 200) (b := 225) (fun _ => mf_200) (am_stepN (a := 201) (b := 225) (fun _ => mf_201) (am_stepN (a := 202) (b := 225) (fun _ => mf_202) (am_stepN (a := 203) (b := 225) (fun _ => mf_203) (am_stepN (a := 204) (b := 225) (fun _ => mf_204) (am_stepN (a := 205) (b := 225) (fun _ => mf_205) (am_stepN (a := 206) (b := 225) (fun _ => mf_206) (am_stepN (a := 207) (b := 225) (fun _ => mf_207) (am_stepN (a := 208) (b := 225) (fun _ => mf_208) (am_stepN (a := 209) (b := 225) (fun _ => mf_209) (am_stepN (a := 210) (b := 225) (fun _ => mf_210) (am_stepN (a := 211) (b := 225) (fun _ => mf_211) (am_stepN (a := 212) (b := 225) (fun _ => mf_212) (am_stepN (a := 213) (b := 225) (fun _ => mf_213) (am_stepN (a := 214) (b := 225) (fun _ => mf_214) (am_stepN (a := 215) (b := 225) (fun _ => mf_215) (am_stepN (a := 216) (b := 225) (fun _ => mf_216) (am_stepN (a := 217) (b := 225) (fun _ => mf_217) (am_stepN (a := 218) (b := 225) (fun _ => mf_218) (am_stepN (a := 219) (b := 225) (fun _ => mf_219) (am_stepN (a := 220) (b := 225) (fun _ => mf_220) (am_stepN (a := 221) (b := 225) (fun _ => mf_221) (am_stepN (a := 222) (b := 225) (fun _ => mf_222) (am_stepN (a := 223) (b := 225) (fun _ => mf_223) (am_stepN (a := 224) (b := 225) (fun _ => mf_224) (fun m h1 h2 => absurd h2 (by omega))))))))))))))))))))))))))
set_option maxRecDepth 100000 in
theorem mfc_225 : ∀ m, 225 ≤ m → m < 250 → (am_mk m).1 ≤ 2 → am_mf am_MT am_mk m := am_stepN (a := 225) (b := 250) (fun _ => mf_225) (am_stepN (a := 226) (b := 250) (fun _ => mf_226) (am_stepN (a := 227) (b := 250) (fun _ => mf_227) (am_stepN (a := 228) (b := 250) (fun _ => mf_228) (am_stepN (a := 229) (b := 250) (fun _ => mf_229) (am_stepN (a := 230) (b := 250) (fun _ => mf_230) (am_stepN (a := 231) (b := 250) (fun _ => mf_231) (am_stepN (a := 232) (b := 250) (fun _ => mf_232) (am_stepN (a := 233) (b := 250) (fun _ => mf_233) (am_stepN (a := 234) (b := 250) (fun _ => mf_234) (am_stepN (a := 235) (b := 250) (fun _ => mf_235) (am_stepN (a := 236) (b := 250) (fun _ => mf_236) (am_stepN (a := 237) (b := 250) (fun _ => mf_237) (am_stepN (a := 238) (b := 250) (fun _ => mf_238) (am_stepN (a := 239) (b := 250) (fun _ => mf_239) (am_stepN (a := 240) (b := 250) (fun _ => mf_240) (am_stepN (a := 241) (b := 250) (fun _ => mf_241) (am_stepN (a := 242) (b := 250) (fun _ => mf_242) (am_stepN (a := 243) (b := 250) (fun _ => mf_243) (am_stepN (a := 244) (b := 250) (fun _ => mf_244) (am_stepN (a := 245) (b := 250) (fun _ => mf_245) (am_stepN (a := 246) (b := 250) (fun _ => mf_246) (am_stepN (a := 247) (b := 250) (fun _ => mf_247) (am_stepN (a := 248) (b := 250) (fun _ => mf_248) (am_stepN (a := 249) (b := 250) (fun _ => mf_249) (fun m h1 h2 => absurd h2 (by omega))))))))))))))))))))))))))
set_option maxRecDepth 100000 in
theorem mfc_250 : ∀ m, 250 ≤ m → m < 275 → (am_mk m).1 ≤ 2 → am_mf am_MT am_mk m := am_stepN (a := 250) (b := 275) (fun _ => mf_250) (am_stepN (a := 251) (b := 275) (fun _ => mf_251) (am_stepN (a := 252) (b := 275) (fun _ => mf_252) (am_stepN (a := 253) (b := 275) (fun _ => mf_253) (am_stepN (a := 254) (b := 275) (fun _ => mf_254) (am_stepN (a := 255) (b := 275) (fun _ => mf_255) (am_stepN (a := 256) (b := 275) (fun _ => mf_256) (am_stepN (a := 257) (b := 275) (fun _ => mf_257) (am_stepN (a := 258) (b := 275) (fun _ => mf_258) (am_stepN (a := 259) (b := 275) (fun _ => mf_259) (am_stepN (a := 260) (b := 275) (fun _ => mf_260) (am_stepN (a := 261) (b := 275) (fun _ => mf_261) (am_stepN (a := 262) (b := 275) (fun _ => mf_262) (am_stepN (a := 263) (b := 275) (fun _ => mf_263) (am_stepN (a := 264) (b := 275) (fun _ => mf_264) (am_stepN (a := 265) (b := 275) (fun _ => mf_265) (am_stepN (a := 266) (b := 275) (fun _ => mf_266) (am_stepN (a := 267) (b := 275) (fun _ => mf_267) (am_stepN (a := 268) (b := 275) (fun _ => mf_268) (am_stepN (a := 269) (b := 275) (fun _ => mf_269) (am_stepN (a := 270) (b := 275) (fun _ => mf_270) (am_stepN (a := 271) (b := 275) (fun _ => mf_271) (am_stepN (a := 272) (b := 275) (fun _ => mf_272) (am_stepN (a := 273) (b := 275) (fun z => absurd z (by decide)) (am_stepN (a := 274) (b := 275) (fun z => absurd z (by decide)) (fun m h1 h2 => absurd h2 (by omega))))))))))))))))))))))))))
theorem am_hmf : ∀ mid, (am_mk mid).1 ≤ 2 → am_mf am_MT am_mk mid := by
  intro m hm
  by_cases g_0 : m < 25
  · exact mfc_0 m (by omega) g_0 hm
  by_cases g_25 : m < 50
  · exact mfc_25 m (by omega) g_25 hm
  by_cases g_50 : m < 75
  · exact mfc_50 m (by omega) g_50 hm
  by_cases g_75 : m < 100
  · exact mfc_75 m (by omega) g_75 hm
  by_cases g_100 : m < 125
  · exact mfc_100 m (by omega) g_100 hm
  by_cases g_125 : m < 150
  · exact mfc_125 m (by omega) g_125 hm
  by_cases g_150 : m < 175
  · exact mfc_150 m (by omega) g_150 hm
  by_cases g_175 : m < 200
  · exact mfc_175 m (by omega) g_175 hm
  by_cases g_200 : m < 225
  · exact mfc_200 m (by omega) g_200 hm
  by_cases g_225 : m < 250
  · exact mfc_225 m (by omega) g_225 hm
  by_cases g_250 : m < 275
  · exact mfc_250 m (by omega) g_250 hm
  · exfalso
    have hl : am_mkl.length = 275 := by decide +kernel
    have : am_mk m = (9, 0, 0) := by
      show am_mkl.getD m (9, 0, 0) = _
      rw [List.getD_eq_getElem?_getD, List.getElem?_eq_none (by omega)]
      rfl
    rw [this] at hm
    exact absurd hm (by decide)
