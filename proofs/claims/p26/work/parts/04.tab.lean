abbrev pm_M : Type := MethodName × ByteArray × Nat × Option FieldType × Nat × List pm_I
def pm_tab_0 : List pm_M := [
  (⟨"PaidWhereMade$Debts", "<init>", "()V"⟩, prog_2_method_1_code, 1, none, 0, pc_0),
  (⟨"PaidWhereMade$Debts", "has", "(I)Z"⟩, prog_2_method_2_code, 2, (some .boolean), 0, pc_1),
  (⟨"PaidWhereMade$Debts", "add", "(IIIII)I"⟩, prog_2_method_3_code, 6, (some .int), 0, pc_2),
  (⟨"PaidWhereMade$Debts", "isOpen", "(I)Z"⟩, prog_2_method_4_code, 2, (some .boolean), 0, pc_3),
  (⟨"PaidWhereMade$Debts", "close", "(III)V"⟩, prog_2_method_5_code, 4, none, 0, pc_4),
  (⟨"PaidWhereMade$Debts", "countOpen", "()I"⟩, prog_2_method_6_code, 3, (some .int), 0, pc_5),
  (⟨"PaidWhereMade$Debts", "sumOwedBy", "(I)I"⟩, prog_2_method_7_code, 4, (some .int), 0, pc_6),
  (⟨"PaidWhereMade$Debts", "sumOwedTo", "(I)I"⟩, prog_2_method_8_code, 4, (some .int), 0, pc_7),
  (⟨"PaidWhereMade$Debts", "shareSomebody", "(II)Z"⟩, prog_2_method_9_code, 3, (some .boolean), 0, pc_8),
  (⟨"PaidWhereMade$Debts", "addInterest", "(III)V"⟩, prog_2_method_10_code, 5, none, 0, pc_9),
  (⟨"PaidWhereMade$Debts", "grown", "(II)I"⟩, prog_2_method_11_code, 2, (some .int), 0, pc_10),
  (⟨"PaidWhereMade$Debts", "copyFrom", "(LPaidWhereMade$Debts;)V"⟩, prog_2_method_12_code, 2, none, 0, pc_11),
  (⟨"PaidWhereMade$Law", "<init>", "()V"⟩, prog_3_method_1_code, 1, none, 1, pc_12),
  (⟨"PaidWhereMade$Law", "clear", "()V"⟩, prog_3_method_2_code, 1, none, 1, pc_13),
  (⟨"PaidWhereMade$Law", "add", "(I)V"⟩, prog_3_method_3_code, 2, none, 1, pc_14),
  (⟨"PaidWhereMade$Law", "addVerdict", "(I)V"⟩, prog_3_method_4_code, 2, none, 1, pc_15)]
def pm_tab_1 : List pm_M := [
  (⟨"PaidWhereMade$Law", "lets", "([I)Z"⟩, prog_3_method_5_code, 4, (some .boolean), 1, pc_16),
  (⟨"PaidWhereMade$Law", "step", "(I[I)V"⟩, prog_3_method_6_code, 5, none, 1, pc_17),
  (⟨"PaidWhereMade$Law", "joined", "(III)I"⟩, prog_3_method_7_code, 3, (some .int), 1, pc_18),
  (⟨"PaidWhereMade$Law", "isFact", "(I)Z"⟩, prog_3_method_8_code, 1, (some .boolean), 1, pc_19),
  (⟨"PaidWhereMade$Law", "push", "(I)V"⟩, prog_3_method_9_code, 2, none, 1, pc_20),
  (⟨"PaidWhereMade$Law", "pop", "()I"⟩, prog_3_method_10_code, 1, (some .int), 1, pc_21),
  (⟨"PaidWhereMade$Law", "copyFrom", "(LPaidWhereMade$Law;)V"⟩, prog_3_method_11_code, 2, none, 1, pc_22),
  (⟨"PaidWhereMade$LawReader", "<init>", "()V"⟩, prog_4_method_1_code, 1, none, 2, pc_23),
  (⟨"PaidWhereMade$LawReader", "addNumbers", "(IIIII)I"⟩, prog_4_method_2_code, 6, (some .int), 2, pc_24),
  (⟨"PaidWhereMade$LawReader", "addBytes", "(I)V"⟩, prog_4_method_3_code, 3, none, 2, pc_25),
  (⟨"PaidWhereMade$LawReader", "cut", "(I)Z"⟩, prog_4_method_4_code, 2, (some .boolean), 2, pc_26),
  (⟨"PaidWhereMade$LawReader", "readInto", "(LPaidWhereMade$Law;)I"⟩, prog_4_method_5_code, 3, (some .int), 2, pc_27),
  (⟨"PaidWhereMade$LawReader", "fail", "(I)V"⟩, prog_4_method_6_code, 2, none, 2, pc_28),
  (⟨"PaidWhereMade$LawReader", "advance", "()V"⟩, prog_4_method_7_code, 1, none, 2, pc_29),
  (⟨"PaidWhereMade$LawReader", "expect", "(I)V"⟩, prog_4_method_8_code, 2, none, 2, pc_30),
  (⟨"PaidWhereMade$LawReader", "readLine", "()V"⟩, prog_4_method_9_code, 2, none, 2, pc_31)]
def pm_tab_2 : List pm_M := [
  (⟨"PaidWhereMade$LawReader", "readAny", "(I)V"⟩, prog_4_method_10_code, 5, none, 2, pc_32),
  (⟨"PaidWhereMade$LawReader", "readCondition", "(I)V"⟩, prog_4_method_11_code, 3, none, 2, pc_33),
  (⟨"PaidWhereMade$LawReader", "readOpened", "(I)V"⟩, prog_4_method_12_code, 2, none, 2, pc_34),
  (⟨"PaidWhereMade$LawReader", "readSide", "()V"⟩, prog_4_method_13_code, 5, none, 2, pc_35),
  (⟨"PaidWhereMade$LawReader", "checkDivisor", "()V"⟩, prog_4_method_14_code, 1, none, 2, pc_36),
  (⟨"PaidWhereMade$LawReader", "readUnit", "()V"⟩, prog_4_method_15_code, 1, none, 2, pc_37),
  (⟨"PaidWhereMade$LawReader", "splitTape", "()V"⟩, prog_4_method_16_code, 5, none, 2, pc_38),
  (⟨"PaidWhereMade$LawReader", "addToken", "(II)V"⟩, prog_4_method_17_code, 3, none, 2, pc_39),
  (⟨"PaidWhereMade$LawReader", "byteAt", "(I)I"⟩, prog_4_method_18_code, 2, (some .int), 2, pc_40),
  (⟨"PaidWhereMade$LawReader", "isBlank", "(I)Z"⟩, prog_4_method_19_code, 1, (some .boolean), 2, pc_41),
  (⟨"PaidWhereMade$LawReader", "isLetter", "(I)Z"⟩, prog_4_method_20_code, 1, (some .boolean), 2, pc_42),
  (⟨"PaidWhereMade$LawReader", "isDigit", "(I)Z"⟩, prog_4_method_21_code, 1, (some .boolean), 2, pc_43),
  (⟨"PaidWhereMade$LawReader", "behindLetters", "(I)I"⟩, prog_4_method_22_code, 4, (some .int), 2, pc_44),
  (⟨"PaidWhereMade$LawReader", "behindDigits", "(I)I"⟩, prog_4_method_23_code, 4, (some .int), 2, pc_45),
  (⟨"PaidWhereMade$LawReader", "wordToken", "(II)I"⟩, prog_4_method_24_code, 6, (some .int), 2, pc_46),
  (⟨"PaidWhereMade$LawReader", "isKeyword", "(III)Z"⟩, prog_4_method_25_code, 5, (some .boolean), 2, pc_47)]
def pm_tab_3 : List pm_M := [
  (⟨"PaidWhereMade$LawReader", "numberToken", "(II)I"⟩, prog_4_method_26_code, 5, (some .int), 2, pc_48),
  (⟨"PaidWhereMade$LawReader", "signToken", "(I)I"⟩, prog_4_method_27_code, 2, (some .int), 2, pc_49),
  (⟨"PaidWhereMade$Lines", "<init>", "()V"⟩, prog_5_method_1_code, 1, none, 3, pc_50),
  (⟨"PaidWhereMade$Lines", "add", "(IIII)I"⟩, prog_5_method_2_code, 5, (some .int), 3, pc_51),
  (⟨"PaidWhereMade$Lines", "fewestWrong", "(I)I"⟩, prog_5_method_3_code, 5, (some .int), 3, pc_52),
  (⟨"PaidWhereMade$Lines", "seatNamed", "(I)I"⟩, prog_5_method_4_code, 4, (some .int), 3, pc_53),
  (⟨"PaidWhereMade$Lines", "seat", "(II)I"⟩, prog_5_method_5_code, 3, (some .int), 3, pc_54),
  (⟨"PaidWhereMade$Lines", "bitOf", "(I)I"⟩, prog_5_method_6_code, 2, (some .int), 3, pc_55),
  (⟨"PaidWhereMade$Lines", "fewestOfSet", "(I)I"⟩, prog_5_method_7_code, 8, (some .int), 3, pc_56),
  (⟨"PaidWhereMade$Lines", "wrongIfTogether", "(I)I"⟩, prog_5_method_8_code, 6, (some .int), 3, pc_57),
  (⟨"PaidWhereMade$Lines", "meetingsBetween", "(II)I"⟩, prog_5_method_9_code, 5, (some .int), 3, pc_58),
  (⟨"PaidWhereMade$Lines", "copyFrom", "(LPaidWhereMade$Lines;)V"⟩, prog_5_method_10_code, 2, none, 3, pc_59),
  (⟨"PaidWhereMade$People", "<init>", "()V"⟩, prog_6_method_1_code, 1, none, 4, pc_60),
  (⟨"PaidWhereMade$People", "has", "(I)Z"⟩, prog_6_method_2_code, 2, (some .boolean), 4, pc_61),
  (⟨"PaidWhereMade$People", "add", "(III)I"⟩, prog_6_method_3_code, 5, (some .int), 4, pc_62),
  (⟨"PaidWhereMade$People", "aimHome", "()V"⟩, prog_6_method_4_code, 1, none, 4, pc_63)]
def pm_tab_4 : List pm_M := [
  (⟨"PaidWhereMade$People", "countAt", "(I)I"⟩, prog_6_method_5_code, 4, (some .int), 4, pc_64),
  (⟨"PaidWhereMade$People", "homesOf", "(I)I"⟩, prog_6_method_6_code, 4, (some .int), 4, pc_65),
  (⟨"PaidWhereMade$People", "copyFrom", "(LPaidWhereMade$People;)V"⟩, prog_6_method_7_code, 2, none, 4, pc_66),
  (⟨"PaidWhereMade$Plans", "<init>", "(LPaidWhereMade$Town;)V"⟩, prog_7_method_1_code, 2, none, 5, pc_67),
  (⟨"PaidWhereMade$Plans", "clearing", "(I)I"⟩, prog_7_method_2_code, 3, (some .int), 5, pc_68),
  (⟨"PaidWhereMade$Plans", "gatherOpen", "(II)Z"⟩, prog_7_method_3_code, 4, (some .boolean), 5, pc_69),
  (⟨"PaidWhereMade$Plans", "noteClashes", "()V"⟩, prog_7_method_4_code, 4, none, 5, pc_70),
  (⟨"PaidWhereMade$Plans", "countSundays", "(I)V"⟩, prog_7_method_5_code, 6, none, 5, pc_71),
  (⟨"PaidWhereMade$Plans", "fewestSundays", "(II)I"⟩, prog_7_method_6_code, 5, (some .int), 5, pc_72),
  (⟨"PaidWhereMade$Plans", "setOfSunday", "(II)I"⟩, prog_7_method_7_code, 6, (some .int), 5, pc_73),
  (⟨"PaidWhereMade$Plans", "greatestSet", "(I)I"⟩, prog_7_method_8_code, 3, (some .int), 5, pc_74),
  (⟨"PaidWhereMade$Plans", "paying", "(II)I"⟩, prog_7_method_9_code, 5, (some .int), 5, pc_75),
  (⟨"PaidWhereMade$Plans", "growDebts", "()V"⟩, prog_7_method_10_code, 4, none, 5, pc_76),
  (⟨"PaidWhereMade$Plans", "leastBehind", "(I)I"⟩, prog_7_method_11_code, 4, (some .int), 5, pc_77),
  (⟨"PaidWhereMade$Plans", "costWithNext", "(II)I"⟩, prog_7_method_12_code, 3, (some .int), 5, pc_78),
  (⟨"PaidWhereMade$Plans", "debtInOrder", "(I)I"⟩, prog_7_method_13_code, 5, (some .int), 5, pc_79)]
def pm_tab_5 : List pm_M := [
  (⟨"PaidWhereMade$Plans", "firstOfLeast", "(I)I"⟩, prog_7_method_14_code, 3, (some .int), 5, pc_80),
  (⟨"PaidWhereMade$Spots", "<init>", "()V"⟩, prog_8_method_1_code, 2, none, 6, pc_81),
  (⟨"PaidWhereMade$Spots", "has", "(I)Z"⟩, prog_8_method_2_code, 2, (some .boolean), 6, pc_82),
  (⟨"PaidWhereMade$Spots", "add", "(I)I"⟩, prog_8_method_3_code, 2, (some .int), 6, pc_83),
  (⟨"PaidWhereMade$Spots", "tellMiles", "(III)Z"⟩, prog_8_method_4_code, 4, (some .boolean), 6, pc_84),
  (⟨"PaidWhereMade$Spots", "milesBetween", "(II)I"⟩, prog_8_method_5_code, 3, (some .int), 6, pc_85),
  (⟨"PaidWhereMade$Spots", "tellChance", "(III)Z"⟩, prog_8_method_6_code, 6, (some .boolean), 6, pc_86),
  (⟨"PaidWhereMade$Spots", "chanceAt", "(II)I"⟩, prog_8_method_7_code, 3, (some .int), 6, pc_87),
  (⟨"PaidWhereMade$Spots", "copyFrom", "(LPaidWhereMade$Spots;)V"⟩, prog_8_method_8_code, 2, none, 6, pc_88),
  (⟨"PaidWhereMade$Sundays", "<init>", "(LPaidWhereMade$Town;)V"⟩, prog_9_method_1_code, 2, none, 7, pc_89),
  (⟨"PaidWhereMade$Sundays", "goBy", "()I"⟩, prog_9_method_2_code, 2, (some .int), 7, pc_90),
  (⟨"PaidWhereMade$Sundays", "sendOut", "()V"⟩, prog_9_method_3_code, 3, none, 7, pc_91),
  (⟨"PaidWhereMade$Sundays", "sendAway", "(II)V"⟩, prog_9_method_4_code, 3, none, 7, pc_92),
  (⟨"PaidWhereMade$Sundays", "payAll", "()I"⟩, prog_9_method_5_code, 5, (some .int), 7, pc_93),
  (⟨"PaidWhereMade$Sundays", "bothStandThere", "(I)Z"⟩, prog_9_method_6_code, 3, (some .boolean), 7, pc_94),
  (⟨"PaidWhereMade$Sundays", "lawLets", "(I)Z"⟩, prog_9_method_7_code, 3, (some .boolean), 7, pc_95)]
def pm_tab_6 : List pm_M := [
  (⟨"PaidWhereMade$Sundays", "cancelAll", "()I"⟩, prog_9_method_8_code, 5, (some .int), 7, pc_96),
  (⟨"PaidWhereMade$Sundays", "spotsWithTwoDebts", "()I"⟩, prog_9_method_9_code, 5, (some .int), 7, pc_97),
  (⟨"PaidWhereMade$Sundays", "findRound", "(I)Z"⟩, prog_9_method_10_code, 6, (some .boolean), 7, pc_98),
  (⟨"PaidWhereMade$Sundays", "noteWhoOwes", "(I)V"⟩, prog_9_method_11_code, 3, none, 7, pc_99),
  (⟨"PaidWhereMade$Sundays", "stepsBetween", "(II)I"⟩, prog_9_method_12_code, 7, (some .int), 7, pc_100),
  (⟨"PaidWhereMade$Sundays", "traceRound", "(II)V"⟩, prog_9_method_13_code, 7, none, 7, pc_101),
  (⟨"PaidWhereMade$Sundays", "leastDebtTowards", "(III)I"⟩, prog_9_method_14_code, 6, (some .int), 7, pc_102),
  (⟨"PaidWhereMade$Sundays", "cancelRound", "()I"⟩, prog_9_method_15_code, 5, (some .int), 7, pc_103),
  (⟨"PaidWhereMade$Tours", "<init>", "(LPaidWhereMade$Town;)V"⟩, prog_10_method_1_code, 2, none, 8, pc_104),
  (⟨"PaidWhereMade$Tours", "prepare", "(II)V"⟩, prog_10_method_2_code, 5, none, 8, pc_105),
  (⟨"PaidWhereMade$Tours", "noteLegs", "(I)V"⟩, prog_10_method_3_code, 4, none, 8, pc_106),
  (⟨"PaidWhereMade$Tours", "fewestTo", "(II)I"⟩, prog_10_method_4_code, 5, (some .int), 8, pc_107),
  (⟨"PaidWhereMade$Tours", "fewestMiles", "(I)I"⟩, prog_10_method_5_code, 5, (some .int), 8, pc_108),
  (⟨"PaidWhereMade$Tours", "coachShare", "(IIIZ)I"⟩, prog_10_method_6_code, 9, (some .int), 8, pc_109),
  (⟨"PaidWhereMade$Tours", "sumOverOrders", "(III)I"⟩, prog_10_method_7_code, 8, (some .int), 8, pc_110),
  (⟨"PaidWhereMade$Tours", "coachCost", "(I)I"⟩, prog_10_method_8_code, 2, (some .int), 8, pc_111)]
def pm_tab_7 : List pm_M := [
  (⟨"PaidWhereMade$Tours", "ordersOf", "(I)I"⟩, prog_10_method_9_code, 3, (some .int), 8, pc_112),
  (⟨"PaidWhereMade$Tours", "commonPart", "(II)I"⟩, prog_10_method_10_code, 6, (some .int), 8, pc_113),
  (⟨"PaidWhereMade$Town", "<init>", "()V"⟩, prog_11_method_1_code, 1, none, 9, pc_114),
  (⟨"PaidWhereMade$Town", "tellSetting", "(II)Z"⟩, prog_11_method_2_code, 3, (some .boolean), 9, pc_115),
  (⟨"PaidWhereMade$Town", "leastSetting", "(I)I"⟩, prog_11_method_3_code, 1, (some .int), 9, pc_116),
  (⟨"PaidWhereMade$Town", "greatestSetting", "(I)I"⟩, prog_11_method_4_code, 1, (some .int), 9, pc_117),
  (⟨"PaidWhereMade$Town", "draw", "(I)I"⟩, prog_11_method_5_code, 2, (some .int), 9, pc_118),
  (⟨"PaidWhereMade$Town", "copyFrom", "(LPaidWhereMade$Town;)V"⟩, prog_11_method_6_code, 2, none, 9, pc_119),
  (⟨"PaidWhereMade$Waits", "<init>", "(LPaidWhereMade$Spots;)V"⟩, prog_12_method_1_code, 2, none, 10, pc_120),
  (⟨"PaidWhereMade$Waits", "answer", "(III)J"⟩, prog_12_method_2_code, 4, (some .long), 10, pc_121),
  (⟨"PaidWhereMade$Waits", "prepare", "(I)V"⟩, prog_12_method_3_code, 5, none, 10, pc_122),
  (⟨"PaidWhereMade$Waits", "stand", "(II)V"⟩, prog_12_method_4_code, 8, none, 10, pc_123),
  (⟨"PaidWhereMade$Waits", "tryWalk", "(III)V"⟩, prog_12_method_5_code, 11, none, 10, pc_124),
  (⟨"PaidWhereMade$Waits", "hoursOfWalk", "(II)I"⟩, prog_12_method_6_code, 3, (some .int), 10, pc_125),
  (⟨"PaidWhereMade$Waits", "repeated", "(II)J"⟩, prog_12_method_7_code, 5, (some .long), 10, pc_126),
  (⟨"PaidWhereMade", "<init>", "()V"⟩, prog_1_method_1_code, 1, none, 11, pc_127)]
def pm_tab_8 : List pm_M := [
  (⟨"PaidWhereMade", "state", "(I)I"⟩, prog_1_method_2_code, 3, (some .int), 11, pc_128),
  (⟨"PaidWhereMade", "spot", "(I)I"⟩, prog_1_method_3_code, 2, (some .int), 11, pc_129),
  (⟨"PaidWhereMade", "way", "(III)Z"⟩, prog_1_method_4_code, 4, (some .boolean), 11, pc_130),
  (⟨"PaidWhereMade", "person", "(III)I"⟩, prog_1_method_5_code, 4, (some .int), 11, pc_131),
  (⟨"PaidWhereMade", "debt", "(IIII)I"⟩, prog_1_method_6_code, 6, (some .int), 11, pc_132),
  (⟨"PaidWhereMade", "set", "(II)Z"⟩, prog_1_method_7_code, 3, (some .boolean), 11, pc_133),
  (⟨"PaidWhereMade", "goal", "(II)Z"⟩, prog_1_method_8_code, 3, (some .boolean), 11, pc_134),
  (⟨"PaidWhereMade", "feed", "(IIIII)I"⟩, prog_1_method_9_code, 6, (some .int), 11, pc_135),
  (⟨"PaidWhereMade", "end", "(I)Z"⟩, prog_1_method_10_code, 2, (some .boolean), 11, pc_136),
  (⟨"PaidWhereMade", "text", "()I"⟩, prog_1_method_11_code, 1, (some .int), 11, pc_137),
  (⟨"PaidWhereMade", "fault", "(I)I"⟩, prog_1_method_12_code, 2, (some .int), 11, pc_138),
  (⟨"PaidWhereMade", "sunday", "()I"⟩, prog_1_method_13_code, 1, (some .int), 11, pc_139),
  (⟨"PaidWhereMade", "pass", "(I)I"⟩, prog_1_method_14_code, 4, (some .int), 11, pc_140),
  (⟨"PaidWhereMade", "of", "(II)I"⟩, prog_1_method_15_code, 3, (some .int), 11, pc_141),
  (⟨"PaidWhereMade", "owed", "(II)I"⟩, prog_1_method_16_code, 3, (some .int), 11, pc_142),
  (⟨"PaidWhereMade", "cleared", "(I)I"⟩, prog_1_method_17_code, 2, (some .int), 11, pc_143)]
def pm_tab_9 : List pm_M := [
  (⟨"PaidWhereMade", "first", "(II)I"⟩, prog_1_method_18_code, 3, (some .int), 11, pc_144),
  (⟨"PaidWhereMade", "tour", "(II)I"⟩, prog_1_method_19_code, 3, (some .int), 11, pc_145),
  (⟨"PaidWhereMade", "share", "(IIII)I"⟩, prog_1_method_20_code, 6, (some .int), 11, pc_146),
  (⟨"PaidWhereMade", "chance", "(III)Z"⟩, prog_1_method_21_code, 4, (some .boolean), 11, pc_147),
  (⟨"PaidWhereMade", "waiting", "(III)J"⟩, prog_1_method_22_code, 4, (some .long), 11, pc_148),
  (⟨"PaidWhereMade", "line", "(IIII)I"⟩, prog_1_method_23_code, 7, (some .int), 11, pc_149),
  (⟨"PaidWhereMade", "wrong", "(I)I"⟩, prog_1_method_24_code, 2, (some .int), 11, pc_150),
  (⟨"PaidWhereMade", "image", "(Z)Z"⟩, prog_1_method_25_code, 2, (some .boolean), 11, pc_151),
  (⟨"PaidWhereMade", "look", "(I)I"⟩, prog_1_method_26_code, 2, (some .int), 11, pc_152),
  (⟨"PaidWhereMade", "lookAtSetting", "(I)I"⟩, prog_1_method_27_code, 2, (some .int), 11, pc_153),
  (⟨"PaidWhereMade", "isSunday", "(I)Z"⟩, prog_1_method_28_code, 1, (some .boolean), 11, pc_154),
  (⟨"PaidWhereMade", "isSetOf", "(II)Z"⟩, prog_1_method_29_code, 2, (some .boolean), 11, pc_155),
  (⟨"PaidWhereMade", "isIn", "(II)Z"⟩, prog_1_method_30_code, 2, (some .boolean), 11, pc_156),
  (⟨"PaidWhereMade", "copyRow", "([I[I)V"⟩, prog_1_method_31_code, 2, none, 11, pc_157),
  (⟨"PaidWhereMadeModel", "<init>", "()V"⟩, prog_14_method_1_code, 1, none, 12, pc_158),
  (⟨"PaidWhereMadeModel", "isIn", "(III)Z"⟩, prog_14_method_3_code, 4, (some .boolean), 12, pc_159)]
def pm_tab_10 : List pm_M := [
  (⟨"PaidWhereMadeModel", "ones", "(I)I"⟩, prog_14_method_4_code, 4, (some .int), 12, pc_160),
  (⟨"PaidWhereMadeModel", "state", "(I)I"⟩, prog_14_method_5_code, 3, (some .int), 12, pc_161),
  (⟨"PaidWhereMadeModel", "draw", "(I)I"⟩, prog_14_method_6_code, 2, (some .int), 12, pc_162),
  (⟨"PaidWhereMadeModel", "isSpot", "(I)Z"⟩, prog_14_method_7_code, 2, (some .boolean), 12, pc_163),
  (⟨"PaidWhereMadeModel", "isOne", "(I)Z"⟩, prog_14_method_8_code, 2, (some .boolean), 12, pc_164),
  (⟨"PaidWhereMadeModel", "milesOf", "(II)I"⟩, prog_14_method_9_code, 3, (some .int), 12, pc_165),
  (⟨"PaidWhereMadeModel", "spot", "(I)I"⟩, prog_14_method_10_code, 2, (some .int), 12, pc_166),
  (⟨"PaidWhereMadeModel", "way", "(III)Z"⟩, prog_14_method_11_code, 4, (some .boolean), 12, pc_167),
  (⟨"PaidWhereMadeModel", "person", "(III)I"⟩, prog_14_method_12_code, 4, (some .int), 12, pc_168),
  (⟨"PaidWhereMadeModel", "debt", "(IIII)I"⟩, prog_14_method_13_code, 5, (some .int), 12, pc_169),
  (⟨"PaidWhereMadeModel", "leastOf", "(I)I"⟩, prog_14_method_14_code, 2, (some .int), 12, pc_170),
  (⟨"PaidWhereMadeModel", "mostOf", "(I)I"⟩, prog_14_method_15_code, 2, (some .int), 12, pc_171),
  (⟨"PaidWhereMadeModel", "set", "(II)Z"⟩, prog_14_method_16_code, 3, (some .boolean), 12, pc_172),
  (⟨"PaidWhereMadeModel", "goal", "(II)Z"⟩, prog_14_method_17_code, 3, (some .boolean), 12, pc_173),
  (⟨"PaidWhereMadeModel", "types", "(I)V"⟩, prog_14_method_18_code, 3, none, 12, pc_174),
  (⟨"PaidWhereMadeModel", "feed", "(IIIII)I"⟩, prog_14_method_19_code, 6, (some .int), 12, pc_175)]
def pm_tab_11 : List pm_M := [
  (⟨"PaidWhereMadeModel", "end", "(I)Z"⟩, prog_14_method_20_code, 2, (some .boolean), 12, pc_176),
  (⟨"PaidWhereMadeModel", "raw", "(I)I"⟩, prog_14_method_21_code, 2, (some .int), 12, pc_177),
  (⟨"PaidWhereMadeModel", "isLetter", "(I)Z"⟩, prog_14_method_22_code, 2, (some .boolean), 12, pc_178),
  (⟨"PaidWhereMadeModel", "isDigit", "(I)Z"⟩, prog_14_method_23_code, 2, (some .boolean), 12, pc_179),
  (⟨"PaidWhereMadeModel", "isMarkSign", "(I)Z"⟩, prog_14_method_24_code, 2, (some .boolean), 12, pc_180),
  (⟨"PaidWhereMadeModel", "wordAt", "(II)I"⟩, prog_14_method_25_code, 6, (some .int), 12, pc_181),
  (⟨"PaidWhereMadeModel", "reads", "()V"⟩, prog_14_method_26_code, 2, none, 12, pc_182),
  (⟨"PaidWhereMadeModel", "errs", "(I)I"⟩, prog_14_method_27_code, 2, (some .int), 12, pc_183),
  (⟨"PaidWhereMadeModel", "isWord", "(I)Z"⟩, prog_14_method_28_code, 2, (some .boolean), 12, pc_184),
  (⟨"PaidWhereMadeModel", "isSign", "(I)Z"⟩, prog_14_method_29_code, 2, (some .boolean), 12, pc_185),
  (⟨"PaidWhereMadeModel", "emits", "(II)V"⟩, prog_14_method_30_code, 3, none, 12, pc_186),
  (⟨"PaidWhereMadeModel", "readUnit", "()I"⟩, prog_14_method_31_code, 2, (some .int), 12, pc_187),
  (⟨"PaidWhereMadeModel", "readProduct", "()I"⟩, prog_14_method_32_code, 2, (some .int), 12, pc_188),
  (⟨"PaidWhereMadeModel", "readSum", "()I"⟩, prog_14_method_33_code, 2, (some .int), 12, pc_189),
  (⟨"PaidWhereMadeModel", "readCompared", "()I"⟩, prog_14_method_34_code, 2, (some .int), 12, pc_190),
  (⟨"PaidWhereMadeModel", "waits", "(I)V"⟩, prog_14_method_35_code, 2, none, 12, pc_191)]
def pm_tab_12 : List pm_M := [
  (⟨"PaidWhereMadeModel", "settles", "(I)V"⟩, prog_14_method_36_code, 2, none, 12, pc_192),
  (⟨"PaidWhereMadeModel", "readAny", "()I"⟩, prog_14_method_37_code, 4, (some .int), 12, pc_193),
  (⟨"PaidWhereMadeModel", "readText", "()I"⟩, prog_14_method_38_code, 3, (some .int), 12, pc_194),
  (⟨"PaidWhereMadeModel", "text", "()I"⟩, prog_14_method_39_code, 3, (some .int), 12, pc_195),
  (⟨"PaidWhereMadeModel", "fault", "(I)I"⟩, prog_14_method_40_code, 2, (some .int), 12, pc_196),
  (⟨"PaidWhereMadeModel", "twoOf", "(III)I"⟩, prog_14_method_41_code, 4, (some .int), 12, pc_197),
  (⟨"PaidWhereMadeModel", "isSo", "(II)Z"⟩, prog_14_method_42_code, 5, (some .boolean), 12, pc_198),
  (⟨"PaidWhereMadeModel", "isOpen", "(I)Z"⟩, prog_14_method_43_code, 2, (some .boolean), 12, pc_199),
  (⟨"PaidWhereMadeModel", "hereAt", "(I)I"⟩, prog_14_method_44_code, 4, (some .int), 12, pc_200),
  (⟨"PaidWhereMadeModel", "lets", "(I)Z"⟩, prog_14_method_45_code, 3, (some .boolean), 12, pc_201),
  (⟨"PaidWhereMadeModel", "goes", "(Z)V"⟩, prog_14_method_46_code, 5, none, 12, pc_202),
  (⟨"PaidWhereMadeModel", "areBothAt", "(II)Z"⟩, prog_14_method_47_code, 3, (some .boolean), 12, pc_203),
  (⟨"PaidWhereMadeModel", "findsRound", "(II)Z"⟩, prog_14_method_48_code, 5, (some .boolean), 12, pc_204),
  (⟨"PaidWhereMadeModel", "canBeNext", "(IIII)Z"⟩, prog_14_method_49_code, 6, (some .boolean), 12, pc_205),
  (⟨"PaidWhereMadeModel", "isPaid", "(II)V"⟩, prog_14_method_50_code, 3, none, 12, pc_206),
  (⟨"PaidWhereMadeModel", "cancels", "(I)V"⟩, prog_14_method_51_code, 4, none, 12, pc_207)]
def pm_tab_13 : List pm_M := [
  (⟨"PaidWhereMadeModel", "cancelsAt", "(I)V"⟩, prog_14_method_52_code, 3, none, 12, pc_208),
  (⟨"PaidWhereMadeModel", "pays", "(I)V"⟩, prog_14_method_53_code, 2, none, 12, pc_209),
  (⟨"PaidWhereMadeModel", "goesBy", "()I"⟩, prog_14_method_54_code, 4, (some .int), 12, pc_210),
  (⟨"PaidWhereMadeModel", "sunday", "()I"⟩, prog_14_method_55_code, 1, (some .int), 12, pc_211),
  (⟨"PaidWhereMadeModel", "pass", "(I)I"⟩, prog_14_method_56_code, 4, (some .int), 12, pc_212),
  (⟨"PaidWhereMadeModel", "sumOf", "(IZ)I"⟩, prog_14_method_57_code, 5, (some .int), 12, pc_213),
  (⟨"PaidWhereMadeModel", "of", "(II)I"⟩, prog_14_method_58_code, 3, (some .int), 12, pc_214),
  (⟨"PaidWhereMadeModel", "owed", "(II)I"⟩, prog_14_method_59_code, 3, (some .int), 12, pc_215),
  (⟨"PaidWhereMadeModel", "areOnOne", "(I)Z"⟩, prog_14_method_60_code, 7, (some .boolean), 12, pc_216),
  (⟨"PaidWhereMadeModel", "greatest", "(II)I"⟩, prog_14_method_61_code, 4, (some .int), 12, pc_217),
  (⟨"PaidWhereMadeModel", "leastFor", "(I)I"⟩, prog_14_method_62_code, 4, (some .int), 12, pc_218),
  (⟨"PaidWhereMadeModel", "takesOpen", "(I)V"⟩, prog_14_method_63_code, 3, none, 12, pc_219),
  (⟨"PaidWhereMadeModel", "cleared", "(I)I"⟩, prog_14_method_64_code, 6, (some .int), 12, pc_220),
  (⟨"PaidWhereMadeModel", "grown", "(II)I"⟩, prog_14_method_65_code, 5, (some .int), 12, pc_221),
  (⟨"PaidWhereMadeModel", "costWith", "(II)I"⟩, prog_14_method_66_code, 3, (some .int), 12, pc_222),
  (⟨"PaidWhereMadeModel", "first", "(II)I"⟩, prog_14_method_67_code, 6, (some .int), 12, pc_223)]
def pm_tab_14 : List pm_M := [
  (⟨"PaidWhereMadeModel", "tourFrom", "(II)I"⟩, prog_14_method_68_code, 8, (some .int), 12, pc_224),
  (⟨"PaidWhereMadeModel", "tour", "(II)I"⟩, prog_14_method_69_code, 3, (some .int), 12, pc_225),
  (⟨"PaidWhereMadeModel", "homesOf", "(I)I"⟩, prog_14_method_70_code, 4, (some .int), 12, pc_226),
  (⟨"PaidWhereMadeModel", "factorial", "(I)I"⟩, prog_14_method_71_code, 4, (some .int), 12, pc_227),
  (⟨"PaidWhereMadeModel", "coach", "(II)I"⟩, prog_14_method_72_code, 3, (some .int), 12, pc_228),
  (⟨"PaidWhereMadeModel", "share", "(IIII)I"⟩, prog_14_method_73_code, 13, (some .int), 12, pc_229),
  (⟨"PaidWhereMadeModel", "chance", "(III)Z"⟩, prog_14_method_74_code, 6, (some .boolean), 12, pc_230),
  (⟨"PaidWhereMadeModel", "hoursOf", "(II)I"⟩, prog_14_method_75_code, 4, (some .int), 12, pc_231),
  (⟨"PaidWhereMadeModel", "hundreds", "(I)J"⟩, prog_14_method_76_code, 5, (some .long), 12, pc_232),
  (⟨"PaidWhereMadeModel", "standing", "(II)J"⟩, prog_14_method_77_code, 3, (some .long), 12, pc_233),
  (⟨"PaidWhereMadeModel", "walking", "(IIII)J"⟩, prog_14_method_78_code, 6, (some .long), 12, pc_234),
  (⟨"PaidWhereMadeModel", "findsMissed", "(I)V"⟩, prog_14_method_79_code, 7, none, 12, pc_235),
  (⟨"PaidWhereMadeModel", "placeIn", "(III)I"⟩, prog_14_method_80_code, 7, (some .int), 12, pc_236),
  (⟨"PaidWhereMadeModel", "walksOn", "(II)V"⟩, prog_14_method_81_code, 5, none, 12, pc_237),
  (⟨"PaidWhereMadeModel", "waiting", "(III)J"⟩, prog_14_method_82_code, 4, (some .long), 12, pc_238),
  (⟨"PaidWhereMadeModel", "line", "(IIII)I"⟩, prog_14_method_83_code, 7, (some .int), 12, pc_239)]
def pm_tab_15 : List pm_M := [
  (⟨"PaidWhereMadeModel", "wrongWith", "(I)I"⟩, prog_14_method_84_code, 5, (some .int), 12, pc_240),
  (⟨"PaidWhereMadeModel", "wrong", "(I)I"⟩, prog_14_method_85_code, 8, (some .int), 12, pc_241),
  (⟨"PaidWhereMadeModel", "kept", "(I)I"⟩, prog_14_method_86_code, 2, (some .int), 12, pc_242),
  (⟨"PaidWhereMadeModel", "keepsDebts", "()V"⟩, prog_14_method_87_code, 2, none, 12, pc_243),
  (⟨"PaidWhereMadeModel", "keepsLaw", "()V"⟩, prog_14_method_88_code, 2, none, 12, pc_244),
  (⟨"PaidWhereMadeModel", "image", "(Z)Z"⟩, prog_14_method_89_code, 3, (some .boolean), 12, pc_245),
  (⟨"PaidWhereMadeModel", "look", "(I)I"⟩, prog_14_method_90_code, 2, (some .int), 12, pc_246),
  (⟨"java/util/Arrays", "fill", "([II)V"⟩, prog_21_method_103_code, 4, none, 14, pc_247),
  (⟨"java/lang/String", "length", "()I"⟩, prog_17_method_54_code, 1, (some .int), 15, pc_248),
  (⟨"java/lang/String", "coder", "()B"⟩, prog_17_method_152_code, 1, (some .byte), 15, pc_249),
  (⟨"java/lang/String", "charAt", "(I)C"⟩, prog_17_method_56_code, 2, (some .char), 15, pc_250),
  (⟨"java/lang/String", "isLatin1", "()Z"⟩, prog_17_method_154_code, 1, (some .boolean), 15, pc_251),
  (⟨"java/lang/StringLatin1", "charAt", "([BI)C"⟩, prog_18_method_2_code, 2, (some .char), 16, pc_252),
  (⟨"java/lang/String", "checkIndex", "(II)V"⟩, prog_17_method_155_code, 2, none, 15, pc_253),
  (⟨"jdk/internal/util/Preconditions", "checkIndex", "(IILjava/util/function/BiFunction;)I"⟩, prog_22_method_11_code, 3, (some .int), 17, pc_254),
  (⟨"java/lang/Integer", "bitCount", "(I)I"⟩, prog_15_method_49_code, 1, (some .int), 13, pc_255)]
def pm_tab_16 : List pm_M := [
  (x, code, maxLocals, ret, 18, pc_law)]
def pm_tab : List pm_M := pm_tab_0 ++ (pm_tab_1 ++ (pm_tab_2 ++ (pm_tab_3 ++ (pm_tab_4 ++ (pm_tab_5 ++ (pm_tab_6 ++ (pm_tab_7 ++ (pm_tab_8 ++ (pm_tab_9 ++ (pm_tab_10 ++ (pm_tab_11 ++ (pm_tab_12 ++ (pm_tab_13 ++ (pm_tab_14 ++ (pm_tab_15 ++ (pm_tab_16))))))))))))))))
/-- the tables' words that go with every call -/
def pm_big : List Cond := lw_tbl.filter goodWord
theorem pm_mem {w : Cond} (i : Nat) (h : (decide (lw_tbl[i]? = some w) && goodWord w) = true) : w ∈ pm_big := by
  simp only [Bool.and_eq_true, decide_eq_true_eq] at h
  exact List.mem_filter.mpr ⟨List.mem_of_getElem? h.1, h.2⟩
def pm_yk (k : Nat) : MethodName := match pm_tab[k]? with | some M => M.1 | none => x
theorem pm_t1 : ∀ w ∈ tables_1_1, w ∈ lw_tbl := fun w h => by
  show w ∈ k2_sels lw_privs ++ (tables_1_1 ++ (tables_1_2 ++ (tables_1_3 ++ (tables_1_4 ++ (tables_1_5 ++ (tables_1_6 ++ (tables_1_7)))))))
  exact List.mem_append_right _ (List.mem_append_left _ h)
theorem pm_t2 : ∀ w ∈ tables_1_2, w ∈ lw_tbl := fun w h => by
  show w ∈ k2_sels lw_privs ++ (tables_1_1 ++ (tables_1_2 ++ (tables_1_3 ++ (tables_1_4 ++ (tables_1_5 ++ (tables_1_6 ++ (tables_1_7)))))))
  exact List.mem_append_right _ (List.mem_append_right _ (List.mem_append_left _ h))
theorem pm_t3 : ∀ w ∈ tables_1_3, w ∈ lw_tbl := fun w h => by
  show w ∈ k2_sels lw_privs ++ (tables_1_1 ++ (tables_1_2 ++ (tables_1_3 ++ (tables_1_4 ++ (tables_1_5 ++ (tables_1_6 ++ (tables_1_7)))))))
  exact List.mem_append_right _ (List.mem_append_right _ (List.mem_append_right _ (List.mem_append_left _ h)))
theorem pm_t4 : ∀ w ∈ tables_1_4, w ∈ lw_tbl := fun w h => by
  show w ∈ k2_sels lw_privs ++ (tables_1_1 ++ (tables_1_2 ++ (tables_1_3 ++ (tables_1_4 ++ (tables_1_5 ++ (tables_1_6 ++ (tables_1_7)))))))
  exact List.mem_append_right _ (List.mem_append_right _ (List.mem_append_right _ (List.mem_append_right _ (List.mem_append_left _ h))))
theorem pm_t5 : ∀ w ∈ tables_1_5, w ∈ lw_tbl := fun w h => by
  show w ∈ k2_sels lw_privs ++ (tables_1_1 ++ (tables_1_2 ++ (tables_1_3 ++ (tables_1_4 ++ (tables_1_5 ++ (tables_1_6 ++ (tables_1_7)))))))
  exact List.mem_append_right _ (List.mem_append_right _ (List.mem_append_right _ (List.mem_append_right _ (List.mem_append_right _ (List.mem_append_left _ h)))))
theorem pm_t6 : ∀ w ∈ tables_1_6, w ∈ lw_tbl := fun w h => by
  show w ∈ k2_sels lw_privs ++ (tables_1_1 ++ (tables_1_2 ++ (tables_1_3 ++ (tables_1_4 ++ (tables_1_5 ++ (tables_1_6 ++ (tables_1_7)))))))
  exact List.mem_append_right _ (List.mem_append_right _ (List.mem_append_right _ (List.mem_append_right _ (List.mem_append_right _ (List.mem_append_right _ (List.mem_append_left _ h))))))
theorem pm_t7 : ∀ w ∈ tables_1_7, w ∈ lw_tbl := fun w h => by
  show w ∈ k2_sels lw_privs ++ (tables_1_1 ++ (tables_1_2 ++ (tables_1_3 ++ (tables_1_4 ++ (tables_1_5 ++ (tables_1_6 ++ (tables_1_7)))))))
  exact List.mem_append_right _ (List.mem_append_right _ (List.mem_append_right _ (List.mem_append_right _ (List.mem_append_right _ (List.mem_append_right _ (List.mem_append_right _ (h)))))))
def pm_CDP (M : pm_M) : Prop := (Cond.code M.1 M.2.1 M.2.2.1 M.2.2.2.1) ∈ pm_big
theorem pm_cd_0 : pm_CDP (⟨"PaidWhereMade$Debts", "<init>", "()V"⟩, prog_2_method_1_code, 1, none, 0, pc_0) := List.mem_filter.mpr ⟨pm_t1 _ (List.mem_of_getElem? (i := 105) rfl), rfl⟩
theorem pm_cd_1 : pm_CDP (⟨"PaidWhereMade$Debts", "has", "(I)Z"⟩, prog_2_method_2_code, 2, (some .boolean), 0, pc_1) := List.mem_filter.mpr ⟨pm_t4 _ (List.mem_of_getElem? (i := 50) rfl), rfl⟩
theorem pm_cd_2 : pm_CDP (⟨"PaidWhereMade$Debts", "add", "(IIIII)I"⟩, prog_2_method_3_code, 6, (some .int), 0, pc_2) := List.mem_filter.mpr ⟨pm_t2 _ (List.mem_of_getElem? (i := 235) rfl), rfl⟩
theorem pm_cd_3 : pm_CDP (⟨"PaidWhereMade$Debts", "isOpen", "(I)Z"⟩, prog_2_method_4_code, 2, (some .boolean), 0, pc_3) := List.mem_filter.mpr ⟨pm_t4 _ (List.mem_of_getElem? (i := 12) rfl), rfl⟩
theorem pm_cd_4 : pm_CDP (⟨"PaidWhereMade$Debts", "close", "(III)V"⟩, prog_2_method_5_code, 4, none, 0, pc_4) := List.mem_filter.mpr ⟨pm_t4 _ (List.mem_of_getElem? (i := 46) rfl), rfl⟩
theorem pm_cd_5 : pm_CDP (⟨"PaidWhereMade$Debts", "countOpen", "()I"⟩, prog_2_method_6_code, 3, (some .int), 0, pc_5) := List.mem_filter.mpr ⟨pm_t5 _ (List.mem_of_getElem? (i := 147) rfl), rfl⟩
theorem pm_cd_6 : pm_CDP (⟨"PaidWhereMade$Debts", "sumOwedBy", "(I)I"⟩, prog_2_method_7_code, 4, (some .int), 0, pc_6) := List.mem_filter.mpr ⟨pm_t4 _ (List.mem_of_getElem? (i := 110) rfl), rfl⟩
theorem pm_cd_7 : pm_CDP (⟨"PaidWhereMade$Debts", "sumOwedTo", "(I)I"⟩, prog_2_method_8_code, 4, (some .int), 0, pc_7) := List.mem_filter.mpr ⟨pm_t4 _ (List.mem_of_getElem? (i := 114) rfl), rfl⟩
theorem pm_cd_8 : pm_CDP (⟨"PaidWhereMade$Debts", "shareSomebody", "(II)Z"⟩, prog_2_method_9_code, 3, (some .boolean), 0, pc_8) := List.mem_filter.mpr ⟨pm_t4 _ (List.mem_of_getElem? (i := 142) rfl), rfl⟩
theorem pm_cd_9 : pm_CDP (⟨"PaidWhereMade$Debts", "addInterest", "(III)V"⟩, prog_2_method_10_code, 5, none, 0, pc_9) := List.mem_filter.mpr ⟨pm_t4 _ (List.mem_of_getElem? (i := 86) rfl), rfl⟩
theorem pm_cd_10 : pm_CDP (⟨"PaidWhereMade$Debts", "grown", "(II)I"⟩, prog_2_method_11_code, 2, (some .int), 0, pc_10) := List.mem_filter.mpr ⟨pm_t4 _ (List.mem_of_getElem? (i := 91) rfl), rfl⟩
theorem pm_cd_11 : pm_CDP (⟨"PaidWhereMade$Debts", "copyFrom", "(LPaidWhereMade$Debts;)V"⟩, prog_2_method_12_code, 2, none, 0, pc_11) := List.mem_filter.mpr ⟨pm_t5 _ (List.mem_of_getElem? (i := 132) rfl), rfl⟩
theorem pm_cd_12 : pm_CDP (⟨"PaidWhereMade$Law", "<init>", "()V"⟩, prog_3_method_1_code, 1, none, 1, pc_12) := List.mem_filter.mpr ⟨pm_t1 _ (List.mem_of_getElem? (i := 192) rfl), rfl⟩
theorem pm_cd_13 : pm_CDP (⟨"PaidWhereMade$Law", "clear", "()V"⟩, prog_3_method_2_code, 1, none, 1, pc_13) := List.mem_filter.mpr ⟨pm_t3 _ (List.mem_of_getElem? (i := 139) rfl), rfl⟩
theorem pm_cd_14 : pm_CDP (⟨"PaidWhereMade$Law", "add", "(I)V"⟩, prog_3_method_3_code, 2, none, 1, pc_14) := List.mem_filter.mpr ⟨pm_t3 _ (List.mem_of_getElem? (i := 167) rfl), rfl⟩
theorem pm_cd_15 : pm_CDP (⟨"PaidWhereMade$Law", "addVerdict", "(I)V"⟩, prog_3_method_4_code, 2, none, 1, pc_15) := List.mem_filter.mpr ⟨pm_t3 _ (List.mem_of_getElem? (i := 190) rfl), rfl⟩
theorem pm_cd_16 : pm_CDP (⟨"PaidWhereMade$Law", "lets", "([I)Z"⟩, prog_3_method_5_code, 4, (some .boolean), 1, pc_16) := List.mem_filter.mpr ⟨pm_t4 _ (List.mem_of_getElem? (i := 66) rfl), rfl⟩
theorem pm_cd_17 : pm_CDP (⟨"PaidWhereMade$Law", "step", "(I[I)V"⟩, prog_3_method_6_code, 5, none, 1, pc_17) := List.mem_filter.mpr ⟨pm_t4 _ (List.mem_of_getElem? (i := 74) rfl), rfl⟩
theorem pm_cd_18 : pm_CDP (⟨"PaidWhereMade$Law", "joined", "(III)I"⟩, prog_3_method_7_code, 3, (some .int), 1, pc_18) := List.mem_filter.mpr ⟨pm_t4 _ (List.mem_of_getElem? (i := 82) rfl), rfl⟩
theorem pm_cd_19 : pm_CDP (⟨"PaidWhereMade$Law", "isFact", "(I)Z"⟩, prog_3_method_8_code, 1, (some .boolean), 1, pc_19) := List.mem_filter.mpr ⟨pm_t3 _ (List.mem_of_getElem? (i := 182) rfl), rfl⟩
theorem pm_cd_20 : pm_CDP (⟨"PaidWhereMade$Law", "push", "(I)V"⟩, prog_3_method_9_code, 2, none, 1, pc_20) := List.mem_filter.mpr ⟨pm_t4 _ (List.mem_of_getElem? (i := 78) rfl), rfl⟩
theorem pm_cd_21 : pm_CDP (⟨"PaidWhereMade$Law", "pop", "()I"⟩, prog_3_method_10_code, 1, (some .int), 1, pc_21) := List.mem_filter.mpr ⟨pm_t4 _ (List.mem_of_getElem? (i := 70) rfl), rfl⟩
theorem pm_cd_22 : pm_CDP (⟨"PaidWhereMade$Law", "copyFrom", "(LPaidWhereMade$Law;)V"⟩, prog_3_method_11_code, 2, none, 1, pc_22) := List.mem_filter.mpr ⟨pm_t3 _ (List.mem_of_getElem? (i := 195) rfl), rfl⟩
theorem pm_cd_23 : pm_CDP (⟨"PaidWhereMade$LawReader", "<init>", "()V"⟩, prog_4_method_1_code, 1, none, 2, pc_23) := List.mem_filter.mpr ⟨pm_t2 _ (List.mem_of_getElem? (i := 29) rfl), rfl⟩
theorem pm_cd_24 : pm_CDP (⟨"PaidWhereMade$LawReader", "addNumbers", "(IIIII)I"⟩, prog_4_method_2_code, 6, (some .int), 2, pc_24) := List.mem_filter.mpr ⟨pm_t3 _ (List.mem_of_getElem? (i := 21) rfl), rfl⟩
theorem pm_cd_25 : pm_CDP (⟨"PaidWhereMade$LawReader", "addBytes", "(I)V"⟩, prog_4_method_3_code, 3, none, 2, pc_25) := List.mem_filter.mpr ⟨pm_t3 _ (List.mem_of_getElem? (i := 25) rfl), rfl⟩
theorem pm_cd_26 : pm_CDP (⟨"PaidWhereMade$LawReader", "cut", "(I)Z"⟩, prog_4_method_4_code, 2, (some .boolean), 2, pc_26) := List.mem_filter.mpr ⟨pm_t3 _ (List.mem_of_getElem? (i := 33) rfl), rfl⟩
theorem pm_cd_27 : pm_CDP (⟨"PaidWhereMade$LawReader", "readInto", "(LPaidWhereMade$Law;)I"⟩, prog_4_method_5_code, 3, (some .int), 2, pc_27) := List.mem_filter.mpr ⟨pm_t3 _ (List.mem_of_getElem? (i := 41) rfl), rfl⟩
theorem pm_cd_28 : pm_CDP (⟨"PaidWhereMade$LawReader", "fail", "(I)V"⟩, prog_4_method_6_code, 2, none, 2, pc_28) := List.mem_filter.mpr ⟨pm_t3 _ (List.mem_of_getElem? (i := 147) rfl), rfl⟩
theorem pm_cd_29 : pm_CDP (⟨"PaidWhereMade$LawReader", "advance", "()V"⟩, prog_4_method_7_code, 1, none, 2, pc_29) := List.mem_filter.mpr ⟨pm_t3 _ (List.mem_of_getElem? (i := 151) rfl), rfl⟩
theorem pm_cd_30 : pm_CDP (⟨"PaidWhereMade$LawReader", "expect", "(I)V"⟩, prog_4_method_8_code, 2, none, 2, pc_30) := List.mem_filter.mpr ⟨pm_t3 _ (List.mem_of_getElem? (i := 171) rfl), rfl⟩
theorem pm_cd_31 : pm_CDP (⟨"PaidWhereMade$LawReader", "readLine", "()V"⟩, prog_4_method_9_code, 2, none, 2, pc_31) := List.mem_filter.mpr ⟨pm_t3 _ (List.mem_of_getElem? (i := 143) rfl), rfl⟩
theorem pm_cd_32 : pm_CDP (⟨"PaidWhereMade$LawReader", "readAny", "(I)V"⟩, prog_4_method_10_code, 5, none, 2, pc_32) := List.mem_filter.mpr ⟨pm_t3 _ (List.mem_of_getElem? (i := 155) rfl), rfl⟩
theorem pm_cd_33 : pm_CDP (⟨"PaidWhereMade$LawReader", "readCondition", "(I)V"⟩, prog_4_method_11_code, 3, none, 2, pc_33) := List.mem_filter.mpr ⟨pm_t3 _ (List.mem_of_getElem? (i := 159) rfl), rfl⟩
theorem pm_cd_34 : pm_CDP (⟨"PaidWhereMade$LawReader", "readOpened", "(I)V"⟩, prog_4_method_12_code, 2, none, 2, pc_34) := List.mem_filter.mpr ⟨pm_t3 _ (List.mem_of_getElem? (i := 163) rfl), rfl⟩
theorem pm_cd_35 : pm_CDP (⟨"PaidWhereMade$LawReader", "readSide", "()V"⟩, prog_4_method_13_code, 5, none, 2, pc_35) := List.mem_filter.mpr ⟨pm_t3 _ (List.mem_of_getElem? (i := 175) rfl), rfl⟩
theorem pm_cd_36 : pm_CDP (⟨"PaidWhereMade$LawReader", "checkDivisor", "()V"⟩, prog_4_method_14_code, 1, none, 2, pc_36) := List.mem_filter.mpr ⟨pm_t3 _ (List.mem_of_getElem? (i := 186) rfl), rfl⟩
theorem pm_cd_37 : pm_CDP (⟨"PaidWhereMade$LawReader", "readUnit", "()V"⟩, prog_4_method_15_code, 1, none, 2, pc_37) := List.mem_filter.mpr ⟨pm_t3 _ (List.mem_of_getElem? (i := 179) rfl), rfl⟩
theorem pm_cd_38 : pm_CDP (⟨"PaidWhereMade$LawReader", "splitTape", "()V"⟩, prog_4_method_16_code, 5, none, 2, pc_38) := List.mem_filter.mpr ⟨pm_t3 _ (List.mem_of_getElem? (i := 45) rfl), rfl⟩
theorem pm_cd_39 : pm_CDP (⟨"PaidWhereMade$LawReader", "addToken", "(II)V"⟩, prog_4_method_17_code, 3, none, 2, pc_39) := List.mem_filter.mpr ⟨pm_t3 _ (List.mem_of_getElem? (i := 117) rfl), rfl⟩
theorem pm_cd_40 : pm_CDP (⟨"PaidWhereMade$LawReader", "byteAt", "(I)I"⟩, prog_4_method_18_code, 2, (some .int), 2, pc_40) := List.mem_filter.mpr ⟨pm_t3 _ (List.mem_of_getElem? (i := 49) rfl), rfl⟩
theorem pm_cd_41 : pm_CDP (⟨"PaidWhereMade$LawReader", "isBlank", "(I)Z"⟩, prog_4_method_19_code, 1, (some .boolean), 2, pc_41) := List.mem_filter.mpr ⟨pm_t3 _ (List.mem_of_getElem? (i := 131) rfl), rfl⟩
theorem pm_cd_42 : pm_CDP (⟨"PaidWhereMade$LawReader", "isLetter", "(I)Z"⟩, prog_4_method_20_code, 1, (some .boolean), 2, pc_42) := List.mem_filter.mpr ⟨pm_t3 _ (List.mem_of_getElem? (i := 52) rfl), rfl⟩
theorem pm_cd_43 : pm_CDP (⟨"PaidWhereMade$LawReader", "isDigit", "(I)Z"⟩, prog_4_method_21_code, 1, (some .boolean), 2, pc_43) := List.mem_filter.mpr ⟨pm_t3 _ (List.mem_of_getElem? (i := 120) rfl), rfl⟩
theorem pm_cd_44 : pm_CDP (⟨"PaidWhereMade$LawReader", "behindLetters", "(I)I"⟩, prog_4_method_22_code, 4, (some .int), 2, pc_44) := List.mem_filter.mpr ⟨pm_t3 _ (List.mem_of_getElem? (i := 56) rfl), rfl⟩
theorem pm_cd_45 : pm_CDP (⟨"PaidWhereMade$LawReader", "behindDigits", "(I)I"⟩, prog_4_method_23_code, 4, (some .int), 2, pc_45) := List.mem_filter.mpr ⟨pm_t3 _ (List.mem_of_getElem? (i := 124) rfl), rfl⟩
theorem pm_cd_46 : pm_CDP (⟨"PaidWhereMade$LawReader", "wordToken", "(II)I"⟩, prog_4_method_24_code, 6, (some .int), 2, pc_46) := List.mem_filter.mpr ⟨pm_t3 _ (List.mem_of_getElem? (i := 60) rfl), rfl⟩
theorem pm_cd_47 : pm_CDP (⟨"PaidWhereMade$LawReader", "isKeyword", "(III)Z"⟩, prog_4_method_25_code, 5, (some .boolean), 2, pc_47) := List.mem_filter.mpr ⟨pm_t3 _ (List.mem_of_getElem? (i := 113) rfl), rfl⟩
theorem pm_cd_48 : pm_CDP (⟨"PaidWhereMade$LawReader", "numberToken", "(II)I"⟩, prog_4_method_26_code, 5, (some .int), 2, pc_48) := List.mem_filter.mpr ⟨pm_t3 _ (List.mem_of_getElem? (i := 128) rfl), rfl⟩
theorem pm_cd_49 : pm_CDP (⟨"PaidWhereMade$LawReader", "signToken", "(I)I"⟩, prog_4_method_27_code, 2, (some .int), 2, pc_49) := List.mem_filter.mpr ⟨pm_t3 _ (List.mem_of_getElem? (i := 134) rfl), rfl⟩
theorem pm_cd_50 : pm_CDP (⟨"PaidWhereMade$Lines", "<init>", "()V"⟩, prog_5_method_1_code, 1, none, 3, pc_50) := List.mem_filter.mpr ⟨pm_t1 _ (List.mem_of_getElem? (i := 154) rfl), rfl⟩
theorem pm_cd_51 : pm_CDP (⟨"PaidWhereMade$Lines", "add", "(IIII)I"⟩, prog_5_method_2_code, 5, (some .int), 3, pc_51) := List.mem_filter.mpr ⟨pm_t5 _ (List.mem_of_getElem? (i := 75) rfl), rfl⟩
theorem pm_cd_52 : pm_CDP (⟨"PaidWhereMade$Lines", "fewestWrong", "(I)I"⟩, prog_5_method_3_code, 5, (some .int), 3, pc_52) := List.mem_filter.mpr ⟨pm_t5 _ (List.mem_of_getElem? (i := 83) rfl), rfl⟩
theorem pm_cd_53 : pm_CDP (⟨"PaidWhereMade$Lines", "seatNamed", "(I)I"⟩, prog_5_method_4_code, 4, (some .int), 3, pc_53) := List.mem_filter.mpr ⟨pm_t5 _ (List.mem_of_getElem? (i := 87) rfl), rfl⟩
theorem pm_cd_54 : pm_CDP (⟨"PaidWhereMade$Lines", "seat", "(II)I"⟩, prog_5_method_5_code, 3, (some .int), 3, pc_54) := List.mem_filter.mpr ⟨pm_t5 _ (List.mem_of_getElem? (i := 92) rfl), rfl⟩
theorem pm_cd_55 : pm_CDP (⟨"PaidWhereMade$Lines", "bitOf", "(I)I"⟩, prog_5_method_6_code, 2, (some .int), 3, pc_55) := List.mem_filter.mpr ⟨pm_t5 _ (List.mem_of_getElem? (i := 96) rfl), rfl⟩
theorem pm_cd_56 : pm_CDP (⟨"PaidWhereMade$Lines", "fewestOfSet", "(I)I"⟩, prog_5_method_7_code, 8, (some .int), 3, pc_56) := List.mem_filter.mpr ⟨pm_t5 _ (List.mem_of_getElem? (i := 105) rfl), rfl⟩
theorem pm_cd_57 : pm_CDP (⟨"PaidWhereMade$Lines", "wrongIfTogether", "(I)I"⟩, prog_5_method_8_code, 6, (some .int), 3, pc_57) := List.mem_filter.mpr ⟨pm_t5 _ (List.mem_of_getElem? (i := 100) rfl), rfl⟩
theorem pm_cd_58 : pm_CDP (⟨"PaidWhereMade$Lines", "meetingsBetween", "(II)I"⟩, prog_5_method_9_code, 5, (some .int), 3, pc_58) := List.mem_filter.mpr ⟨pm_t5 _ (List.mem_of_getElem? (i := 109) rfl), rfl⟩
theorem pm_cd_59 : pm_CDP (⟨"PaidWhereMade$Lines", "copyFrom", "(LPaidWhereMade$Lines;)V"⟩, prog_5_method_10_code, 2, none, 3, pc_59) := List.mem_filter.mpr ⟨pm_t5 _ (List.mem_of_getElem? (i := 137) rfl), rfl⟩
theorem pm_cd_60 : pm_CDP (⟨"PaidWhereMade$People", "<init>", "()V"⟩, prog_6_method_1_code, 1, none, 4, pc_60) := List.mem_filter.mpr ⟨pm_t1 _ (List.mem_of_getElem? (i := 68) rfl), rfl⟩
theorem pm_cd_61 : pm_CDP (⟨"PaidWhereMade$People", "has", "(I)Z"⟩, prog_6_method_2_code, 2, (some .boolean), 4, pc_61) := List.mem_filter.mpr ⟨pm_t2 _ (List.mem_of_getElem? (i := 231) rfl), rfl⟩
theorem pm_cd_62 : pm_CDP (⟨"PaidWhereMade$People", "add", "(III)I"⟩, prog_6_method_3_code, 5, (some .int), 4, pc_62) := List.mem_filter.mpr ⟨pm_t2 _ (List.mem_of_getElem? (i := 222) rfl), rfl⟩
theorem pm_cd_63 : pm_CDP (⟨"PaidWhereMade$People", "aimHome", "()V"⟩, prog_6_method_4_code, 1, none, 4, pc_63) := List.mem_filter.mpr ⟨pm_t4 _ (List.mem_of_getElem? (i := 96) rfl), rfl⟩
theorem pm_cd_64 : pm_CDP (⟨"PaidWhereMade$People", "countAt", "(I)I"⟩, prog_6_method_5_code, 4, (some .int), 4, pc_64) := List.mem_filter.mpr ⟨pm_t4 _ (List.mem_of_getElem? (i := 62) rfl), rfl⟩
theorem pm_cd_65 : pm_CDP (⟨"PaidWhereMade$People", "homesOf", "(I)I"⟩, prog_6_method_6_code, 4, (some .int), 4, pc_65) := List.mem_filter.mpr ⟨pm_t4 _ (List.mem_of_getElem? (i := 236) rfl), rfl⟩
theorem pm_cd_66 : pm_CDP (⟨"PaidWhereMade$People", "copyFrom", "(LPaidWhereMade$People;)V"⟩, prog_6_method_7_code, 2, none, 4, pc_66) := List.mem_filter.mpr ⟨pm_t5 _ (List.mem_of_getElem? (i := 128) rfl), rfl⟩
theorem pm_cd_67 : pm_CDP (⟨"PaidWhereMade$Plans", "<init>", "(LPaidWhereMade$Town;)V"⟩, prog_7_method_1_code, 2, none, 5, pc_67) := List.mem_filter.mpr ⟨pm_t2 _ (List.mem_of_getElem? (i := 96) rfl), rfl⟩
theorem pm_cd_68 : pm_CDP (⟨"PaidWhereMade$Plans", "clearing", "(I)I"⟩, prog_7_method_2_code, 3, (some .int), 5, pc_68) := List.mem_filter.mpr ⟨pm_t4 _ (List.mem_of_getElem? (i := 129) rfl), rfl⟩
theorem pm_cd_69 : pm_CDP (⟨"PaidWhereMade$Plans", "gatherOpen", "(II)Z"⟩, prog_7_method_3_code, 4, (some .boolean), 5, pc_69) := List.mem_filter.mpr ⟨pm_t4 _ (List.mem_of_getElem? (i := 133) rfl), rfl⟩
theorem pm_cd_70 : pm_CDP (⟨"PaidWhereMade$Plans", "noteClashes", "()V"⟩, prog_7_method_4_code, 4, none, 5, pc_70) := List.mem_filter.mpr ⟨pm_t4 _ (List.mem_of_getElem? (i := 138) rfl), rfl⟩
theorem pm_cd_71 : pm_CDP (⟨"PaidWhereMade$Plans", "countSundays", "(I)V"⟩, prog_7_method_5_code, 6, none, 5, pc_71) := List.mem_filter.mpr ⟨pm_t4 _ (List.mem_of_getElem? (i := 146) rfl), rfl⟩
theorem pm_cd_72 : pm_CDP (⟨"PaidWhereMade$Plans", "fewestSundays", "(II)I"⟩, prog_7_method_6_code, 5, (some .int), 5, pc_72) := List.mem_filter.mpr ⟨pm_t4 _ (List.mem_of_getElem? (i := 156) rfl), rfl⟩
theorem pm_cd_73 : pm_CDP (⟨"PaidWhereMade$Plans", "setOfSunday", "(II)I"⟩, prog_7_method_7_code, 6, (some .int), 5, pc_73) := List.mem_filter.mpr ⟨pm_t4 _ (List.mem_of_getElem? (i := 161) rfl), rfl⟩
theorem pm_cd_74 : pm_CDP (⟨"PaidWhereMade$Plans", "greatestSet", "(I)I"⟩, prog_7_method_8_code, 3, (some .int), 5, pc_74) := List.mem_filter.mpr ⟨pm_t4 _ (List.mem_of_getElem? (i := 165) rfl), rfl⟩
theorem pm_cd_75 : pm_CDP (⟨"PaidWhereMade$Plans", "paying", "(II)I"⟩, prog_7_method_9_code, 5, (some .int), 5, pc_75) := List.mem_filter.mpr ⟨pm_t4 _ (List.mem_of_getElem? (i := 173) rfl), rfl⟩
theorem pm_cd_76 : pm_CDP (⟨"PaidWhereMade$Plans", "growDebts", "()V"⟩, prog_7_method_10_code, 4, none, 5, pc_76) := List.mem_filter.mpr ⟨pm_t4 _ (List.mem_of_getElem? (i := 177) rfl), rfl⟩
theorem pm_cd_77 : pm_CDP (⟨"PaidWhereMade$Plans", "leastBehind", "(I)I"⟩, prog_7_method_11_code, 4, (some .int), 5, pc_77) := List.mem_filter.mpr ⟨pm_t4 _ (List.mem_of_getElem? (i := 182) rfl), rfl⟩
theorem pm_cd_78 : pm_CDP (⟨"PaidWhereMade$Plans", "costWithNext", "(II)I"⟩, prog_7_method_12_code, 3, (some .int), 5, pc_78) := List.mem_filter.mpr ⟨pm_t4 _ (List.mem_of_getElem? (i := 188) rfl), rfl⟩
theorem pm_cd_79 : pm_CDP (⟨"PaidWhereMade$Plans", "debtInOrder", "(I)I"⟩, prog_7_method_13_code, 5, (some .int), 5, pc_79) := List.mem_filter.mpr ⟨pm_t4 _ (List.mem_of_getElem? (i := 192) rfl), rfl⟩
theorem pm_cd_80 : pm_CDP (⟨"PaidWhereMade$Plans", "firstOfLeast", "(I)I"⟩, prog_7_method_14_code, 3, (some .int), 5, pc_80) := List.mem_filter.mpr ⟨pm_t4 _ (List.mem_of_getElem? (i := 196) rfl), rfl⟩
theorem pm_cd_81 : pm_CDP (⟨"PaidWhereMade$Spots", "<init>", "()V"⟩, prog_8_method_1_code, 2, none, 6, pc_81) := List.mem_filter.mpr ⟨pm_t1 _ (List.mem_of_getElem? (i := 40) rfl), rfl⟩
theorem pm_cd_82 : pm_CDP (⟨"PaidWhereMade$Spots", "has", "(I)Z"⟩, prog_8_method_2_code, 2, (some .boolean), 6, pc_82) := List.mem_filter.mpr ⟨pm_t2 _ (List.mem_of_getElem? (i := 213) rfl), rfl⟩
theorem pm_cd_83 : pm_CDP (⟨"PaidWhereMade$Spots", "add", "(I)I"⟩, prog_8_method_3_code, 2, (some .int), 6, pc_83) := List.mem_filter.mpr ⟨pm_t2 _ (List.mem_of_getElem? (i := 201) rfl), rfl⟩
theorem pm_cd_84 : pm_CDP (⟨"PaidWhereMade$Spots", "tellMiles", "(III)Z"⟩, prog_8_method_4_code, 4, (some .boolean), 6, pc_84) := List.mem_filter.mpr ⟨pm_t2 _ (List.mem_of_getElem? (i := 209) rfl), rfl⟩
theorem pm_cd_85 : pm_CDP (⟨"PaidWhereMade$Spots", "milesBetween", "(II)I"⟩, prog_8_method_5_code, 3, (some .int), 6, pc_85) := List.mem_filter.mpr ⟨pm_t3 _ (List.mem_of_getElem? (i := 236) rfl), rfl⟩
theorem pm_cd_86 : pm_CDP (⟨"PaidWhereMade$Spots", "tellChance", "(III)Z"⟩, prog_8_method_6_code, 6, (some .boolean), 6, pc_86) := List.mem_filter.mpr ⟨pm_t5 _ (List.mem_of_getElem? (i := 24) rfl), rfl⟩
theorem pm_cd_87 : pm_CDP (⟨"PaidWhereMade$Spots", "chanceAt", "(II)I"⟩, prog_8_method_7_code, 3, (some .int), 6, pc_87) := List.mem_filter.mpr ⟨pm_t5 _ (List.mem_of_getElem? (i := 28) rfl), rfl⟩
theorem pm_cd_88 : pm_CDP (⟨"PaidWhereMade$Spots", "copyFrom", "(LPaidWhereMade$Spots;)V"⟩, prog_8_method_8_code, 2, none, 6, pc_88) := List.mem_filter.mpr ⟨pm_t5 _ (List.mem_of_getElem? (i := 123) rfl), rfl⟩
theorem pm_cd_89 : pm_CDP (⟨"PaidWhereMade$Sundays", "<init>", "(LPaidWhereMade$Town;)V"⟩, prog_9_method_1_code, 2, none, 7, pc_89) := List.mem_filter.mpr ⟨pm_t2 _ (List.mem_of_getElem? (i := 70) rfl), rfl⟩
theorem pm_cd_90 : pm_CDP (⟨"PaidWhereMade$Sundays", "goBy", "()I"⟩, prog_9_method_2_code, 2, (some .int), 7, pc_90) := List.mem_filter.mpr ⟨pm_t3 _ (List.mem_of_getElem? (i := 217) rfl), rfl⟩
theorem pm_cd_91 : pm_CDP (⟨"PaidWhereMade$Sundays", "sendOut", "()V"⟩, prog_9_method_3_code, 3, none, 7, pc_91) := List.mem_filter.mpr ⟨pm_t3 _ (List.mem_of_getElem? (i := 221) rfl), rfl⟩
theorem pm_cd_92 : pm_CDP (⟨"PaidWhereMade$Sundays", "sendAway", "(II)V"⟩, prog_9_method_4_code, 3, none, 7, pc_92) := List.mem_filter.mpr ⟨pm_t3 _ (List.mem_of_getElem? (i := 231) rfl), rfl⟩
theorem pm_cd_93 : pm_CDP (⟨"PaidWhereMade$Sundays", "payAll", "()I"⟩, prog_9_method_5_code, 5, (some .int), 7, pc_93) := List.mem_filter.mpr ⟨pm_t4 _ (List.mem_of_getElem? (i := 54) rfl), rfl⟩
theorem pm_cd_94 : pm_CDP (⟨"PaidWhereMade$Sundays", "bothStandThere", "(I)Z"⟩, prog_9_method_6_code, 3, (some .boolean), 7, pc_94) := List.mem_filter.mpr ⟨pm_t4 _ (List.mem_of_getElem? (i := 8) rfl), rfl⟩
theorem pm_cd_95 : pm_CDP (⟨"PaidWhereMade$Sundays", "lawLets", "(I)Z"⟩, prog_9_method_7_code, 3, (some .boolean), 7, pc_95) := List.mem_filter.mpr ⟨pm_t4 _ (List.mem_of_getElem? (i := 58) rfl), rfl⟩
theorem pm_cd_96 : pm_CDP (⟨"PaidWhereMade$Sundays", "cancelAll", "()I"⟩, prog_9_method_8_code, 5, (some .int), 7, pc_96) := List.mem_filter.mpr ⟨pm_t4 _ (List.mem_of_getElem? (i := 0) rfl), rfl⟩
theorem pm_cd_97 : pm_CDP (⟨"PaidWhereMade$Sundays", "spotsWithTwoDebts", "()I"⟩, prog_9_method_9_code, 5, (some .int), 7, pc_97) := List.mem_filter.mpr ⟨pm_t4 _ (List.mem_of_getElem? (i := 4) rfl), rfl⟩
theorem pm_cd_98 : pm_CDP (⟨"PaidWhereMade$Sundays", "findRound", "(I)Z"⟩, prog_9_method_10_code, 6, (some .boolean), 7, pc_98) := List.mem_filter.mpr ⟨pm_t4 _ (List.mem_of_getElem? (i := 19) rfl), rfl⟩
theorem pm_cd_99 : pm_CDP (⟨"PaidWhereMade$Sundays", "noteWhoOwes", "(I)V"⟩, prog_9_method_11_code, 3, none, 7, pc_99) := List.mem_filter.mpr ⟨pm_t4 _ (List.mem_of_getElem? (i := 23) rfl), rfl⟩
theorem pm_cd_100 : pm_CDP (⟨"PaidWhereMade$Sundays", "stepsBetween", "(II)I"⟩, prog_9_method_12_code, 7, (some .int), 7, pc_100) := List.mem_filter.mpr ⟨pm_t4 _ (List.mem_of_getElem? (i := 28) rfl), rfl⟩
theorem pm_cd_101 : pm_CDP (⟨"PaidWhereMade$Sundays", "traceRound", "(II)V"⟩, prog_9_method_13_code, 7, none, 7, pc_101) := List.mem_filter.mpr ⟨pm_t4 _ (List.mem_of_getElem? (i := 32) rfl), rfl⟩
theorem pm_cd_102 : pm_CDP (⟨"PaidWhereMade$Sundays", "leastDebtTowards", "(III)I"⟩, prog_9_method_14_code, 6, (some .int), 7, pc_102) := List.mem_filter.mpr ⟨pm_t4 _ (List.mem_of_getElem? (i := 36) rfl), rfl⟩
theorem pm_cd_103 : pm_CDP (⟨"PaidWhereMade$Sundays", "cancelRound", "()I"⟩, prog_9_method_15_code, 5, (some .int), 7, pc_103) := List.mem_filter.mpr ⟨pm_t4 _ (List.mem_of_getElem? (i := 40) rfl), rfl⟩
theorem pm_cd_104 : pm_CDP (⟨"PaidWhereMade$Tours", "<init>", "(LPaidWhereMade$Town;)V"⟩, prog_10_method_1_code, 2, none, 8, pc_104) := List.mem_filter.mpr ⟨pm_t2 _ (List.mem_of_getElem? (i := 124) rfl), rfl⟩
theorem pm_cd_105 : pm_CDP (⟨"PaidWhereMade$Tours", "prepare", "(II)V"⟩, prog_10_method_2_code, 5, none, 8, pc_105) := List.mem_filter.mpr ⟨pm_t4 _ (List.mem_of_getElem? (i := 207) rfl), rfl⟩
theorem pm_cd_106 : pm_CDP (⟨"PaidWhereMade$Tours", "noteLegs", "(I)V"⟩, prog_10_method_3_code, 4, none, 8, pc_106) := List.mem_filter.mpr ⟨pm_t4 _ (List.mem_of_getElem? (i := 212) rfl), rfl⟩
theorem pm_cd_107 : pm_CDP (⟨"PaidWhereMade$Tours", "fewestTo", "(II)I"⟩, prog_10_method_4_code, 5, (some .int), 8, pc_107) := List.mem_filter.mpr ⟨pm_t4 _ (List.mem_of_getElem? (i := 217) rfl), rfl⟩
theorem pm_cd_108 : pm_CDP (⟨"PaidWhereMade$Tours", "fewestMiles", "(I)I"⟩, prog_10_method_5_code, 5, (some .int), 8, pc_108) := List.mem_filter.mpr ⟨pm_t4 _ (List.mem_of_getElem? (i := 223) rfl), rfl⟩
theorem pm_cd_109 : pm_CDP (⟨"PaidWhereMade$Tours", "coachShare", "(IIIZ)I"⟩, prog_10_method_6_code, 9, (some .int), 8, pc_109) := List.mem_filter.mpr ⟨pm_t4 _ (List.mem_of_getElem? (i := 231) rfl), rfl⟩
theorem pm_cd_110 : pm_CDP (⟨"PaidWhereMade$Tours", "sumOverOrders", "(III)I"⟩, prog_10_method_7_code, 8, (some .int), 8, pc_110) := List.mem_filter.mpr ⟨pm_t5 _ (List.mem_of_getElem? (i := 2) rfl), rfl⟩
theorem pm_cd_111 : pm_CDP (⟨"PaidWhereMade$Tours", "coachCost", "(I)I"⟩, prog_10_method_8_code, 2, (some .int), 8, pc_111) := List.mem_filter.mpr ⟨pm_t5 _ (List.mem_of_getElem? (i := 6) rfl), rfl⟩
theorem pm_cd_112 : pm_CDP (⟨"PaidWhereMade$Tours", "ordersOf", "(I)I"⟩, prog_10_method_9_code, 3, (some .int), 8, pc_112) := List.mem_filter.mpr ⟨pm_t5 _ (List.mem_of_getElem? (i := 10) rfl), rfl⟩
theorem pm_cd_113 : pm_CDP (⟨"PaidWhereMade$Tours", "commonPart", "(II)I"⟩, prog_10_method_10_code, 6, (some .int), 8, pc_113) := List.mem_filter.mpr ⟨pm_t5 _ (List.mem_of_getElem? (i := 16) rfl), rfl⟩
theorem pm_cd_114 : pm_CDP (⟨"PaidWhereMade$Town", "<init>", "()V"⟩, prog_11_method_1_code, 1, none, 9, pc_114) := List.mem_filter.mpr ⟨pm_t1 _ (List.mem_of_getElem? (i := 34) rfl), rfl⟩
theorem pm_cd_115 : pm_CDP (⟨"PaidWhereMade$Town", "tellSetting", "(II)Z"⟩, prog_11_method_2_code, 3, (some .boolean), 9, pc_115) := List.mem_filter.mpr ⟨pm_t3 _ (List.mem_of_getElem? (i := 3) rfl), rfl⟩
theorem pm_cd_116 : pm_CDP (⟨"PaidWhereMade$Town", "leastSetting", "(I)I"⟩, prog_11_method_3_code, 1, (some .int), 9, pc_116) := List.mem_filter.mpr ⟨pm_t3 _ (List.mem_of_getElem? (i := 6) rfl), rfl⟩
theorem pm_cd_117 : pm_CDP (⟨"PaidWhereMade$Town", "greatestSetting", "(I)I"⟩, prog_11_method_4_code, 1, (some .int), 9, pc_117) := List.mem_filter.mpr ⟨pm_t3 _ (List.mem_of_getElem? (i := 9) rfl), rfl⟩
theorem pm_cd_118 : pm_CDP (⟨"PaidWhereMade$Town", "draw", "(I)I"⟩, prog_11_method_5_code, 2, (some .int), 9, pc_118) := List.mem_filter.mpr ⟨pm_t3 _ (List.mem_of_getElem? (i := 225) rfl), rfl⟩
theorem pm_cd_119 : pm_CDP (⟨"PaidWhereMade$Town", "copyFrom", "(LPaidWhereMade$Town;)V"⟩, prog_11_method_6_code, 2, none, 9, pc_119) := List.mem_filter.mpr ⟨pm_t5 _ (List.mem_of_getElem? (i := 118) rfl), rfl⟩
theorem pm_cd_120 : pm_CDP (⟨"PaidWhereMade$Waits", "<init>", "(LPaidWhereMade$Spots;)V"⟩, prog_12_method_1_code, 2, none, 10, pc_120) := List.mem_filter.mpr ⟨pm_t2 _ (List.mem_of_getElem? (i := 149) rfl), rfl⟩
theorem pm_cd_121 : pm_CDP (⟨"PaidWhereMade$Waits", "answer", "(III)J"⟩, prog_12_method_2_code, 4, (some .long), 10, pc_121) := List.mem_filter.mpr ⟨pm_t5 _ (List.mem_of_getElem? (i := 37) rfl), rfl⟩
theorem pm_cd_122 : pm_CDP (⟨"PaidWhereMade$Waits", "prepare", "(I)V"⟩, prog_12_method_3_code, 5, none, 10, pc_122) := List.mem_filter.mpr ⟨pm_t5 _ (List.mem_of_getElem? (i := 42) rfl), rfl⟩
theorem pm_cd_123 : pm_CDP (⟨"PaidWhereMade$Waits", "stand", "(II)V"⟩, prog_12_method_4_code, 8, none, 10, pc_123) := List.mem_filter.mpr ⟨pm_t5 _ (List.mem_of_getElem? (i := 46) rfl), rfl⟩
theorem pm_cd_124 : pm_CDP (⟨"PaidWhereMade$Waits", "tryWalk", "(III)V"⟩, prog_12_method_5_code, 11, none, 10, pc_124) := List.mem_filter.mpr ⟨pm_t5 _ (List.mem_of_getElem? (i := 54) rfl), rfl⟩
theorem pm_cd_125 : pm_CDP (⟨"PaidWhereMade$Waits", "hoursOfWalk", "(II)I"⟩, prog_12_method_6_code, 3, (some .int), 10, pc_125) := List.mem_filter.mpr ⟨pm_t5 _ (List.mem_of_getElem? (i := 58) rfl), rfl⟩
theorem pm_cd_126 : pm_CDP (⟨"PaidWhereMade$Waits", "repeated", "(II)J"⟩, prog_12_method_7_code, 5, (some .long), 10, pc_126) := List.mem_filter.mpr ⟨pm_t5 _ (List.mem_of_getElem? (i := 50) rfl), rfl⟩
theorem pm_cd_127 : pm_CDP (⟨"PaidWhereMade", "<init>", "()V"⟩, prog_1_method_1_code, 1, none, 11, pc_127) := List.mem_filter.mpr ⟨pm_t1 _ (List.mem_of_getElem? (i := 26) rfl), rfl⟩
theorem pm_cd_128 : pm_CDP (⟨"PaidWhereMade", "state", "(I)I"⟩, prog_1_method_2_code, 3, (some .int), 11, pc_128) := List.mem_filter.mpr ⟨pm_t2 _ (List.mem_of_getElem? (i := 193) rfl), rfl⟩
theorem pm_cd_129 : pm_CDP (⟨"PaidWhereMade", "spot", "(I)I"⟩, prog_1_method_3_code, 2, (some .int), 11, pc_129) := List.mem_filter.mpr ⟨pm_t2 _ (List.mem_of_getElem? (i := 197) rfl), rfl⟩
theorem pm_cd_130 : pm_CDP (⟨"PaidWhereMade", "way", "(III)Z"⟩, prog_1_method_4_code, 4, (some .boolean), 11, pc_130) := List.mem_filter.mpr ⟨pm_t2 _ (List.mem_of_getElem? (i := 205) rfl), rfl⟩
theorem pm_cd_131 : pm_CDP (⟨"PaidWhereMade", "person", "(III)I"⟩, prog_1_method_5_code, 4, (some .int), 11, pc_131) := List.mem_filter.mpr ⟨pm_t2 _ (List.mem_of_getElem? (i := 217) rfl), rfl⟩
theorem pm_cd_132 : pm_CDP (⟨"PaidWhereMade", "debt", "(IIII)I"⟩, prog_1_method_6_code, 6, (some .int), 11, pc_132) := List.mem_filter.mpr ⟨pm_t2 _ (List.mem_of_getElem? (i := 227) rfl), rfl⟩
theorem pm_cd_133 : pm_CDP (⟨"PaidWhereMade", "set", "(II)Z"⟩, prog_1_method_7_code, 3, (some .boolean), 11, pc_133) := List.mem_filter.mpr ⟨pm_t2 _ (List.mem_of_getElem? (i := 239) rfl), rfl⟩
theorem pm_cd_134 : pm_CDP (⟨"PaidWhereMade", "goal", "(II)Z"⟩, prog_1_method_8_code, 3, (some .boolean), 11, pc_134) := List.mem_filter.mpr ⟨pm_t3 _ (List.mem_of_getElem? (i := 13) rfl), rfl⟩
theorem pm_cd_135 : pm_CDP (⟨"PaidWhereMade", "feed", "(IIIII)I"⟩, prog_1_method_9_code, 6, (some .int), 11, pc_135) := List.mem_filter.mpr ⟨pm_t3 _ (List.mem_of_getElem? (i := 17) rfl), rfl⟩
theorem pm_cd_136 : pm_CDP (⟨"PaidWhereMade", "end", "(I)Z"⟩, prog_1_method_10_code, 2, (some .boolean), 11, pc_136) := List.mem_filter.mpr ⟨pm_t3 _ (List.mem_of_getElem? (i := 29) rfl), rfl⟩
theorem pm_cd_137 : pm_CDP (⟨"PaidWhereMade", "text", "()I"⟩, prog_1_method_11_code, 1, (some .int), 11, pc_137) := List.mem_filter.mpr ⟨pm_t3 _ (List.mem_of_getElem? (i := 37) rfl), rfl⟩
theorem pm_cd_138 : pm_CDP (⟨"PaidWhereMade", "fault", "(I)I"⟩, prog_1_method_12_code, 2, (some .int), 11, pc_138) := List.mem_filter.mpr ⟨pm_t3 _ (List.mem_of_getElem? (i := 209) rfl), rfl⟩
theorem pm_cd_139 : pm_CDP (⟨"PaidWhereMade", "sunday", "()I"⟩, prog_1_method_13_code, 1, (some .int), 11, pc_139) := List.mem_filter.mpr ⟨pm_t3 _ (List.mem_of_getElem? (i := 213) rfl), rfl⟩
theorem pm_cd_140 : pm_CDP (⟨"PaidWhereMade", "pass", "(I)I"⟩, prog_1_method_14_code, 4, (some .int), 11, pc_140) := List.mem_filter.mpr ⟨pm_t4 _ (List.mem_of_getElem? (i := 101) rfl), rfl⟩
theorem pm_cd_141 : pm_CDP (⟨"PaidWhereMade", "of", "(II)I"⟩, prog_1_method_15_code, 3, (some .int), 11, pc_141) := List.mem_filter.mpr ⟨pm_t4 _ (List.mem_of_getElem? (i := 106) rfl), rfl⟩
theorem pm_cd_142 : pm_CDP (⟨"PaidWhereMade", "owed", "(II)I"⟩, prog_1_method_16_code, 3, (some .int), 11, pc_142) := List.mem_filter.mpr ⟨pm_t4 _ (List.mem_of_getElem? (i := 118) rfl), rfl⟩
theorem pm_cd_143 : pm_CDP (⟨"PaidWhereMade", "cleared", "(I)I"⟩, prog_1_method_17_code, 2, (some .int), 11, pc_143) := List.mem_filter.mpr ⟨pm_t4 _ (List.mem_of_getElem? (i := 125) rfl), rfl⟩
theorem pm_cd_144 : pm_CDP (⟨"PaidWhereMade", "first", "(II)I"⟩, prog_1_method_18_code, 3, (some .int), 11, pc_144) := List.mem_filter.mpr ⟨pm_t4 _ (List.mem_of_getElem? (i := 169) rfl), rfl⟩
theorem pm_cd_145 : pm_CDP (⟨"PaidWhereMade", "tour", "(II)I"⟩, prog_1_method_19_code, 3, (some .int), 11, pc_145) := List.mem_filter.mpr ⟨pm_t4 _ (List.mem_of_getElem? (i := 200) rfl), rfl⟩
theorem pm_cd_146 : pm_CDP (⟨"PaidWhereMade", "share", "(IIII)I"⟩, prog_1_method_20_code, 6, (some .int), 11, pc_146) := List.mem_filter.mpr ⟨pm_t4 _ (List.mem_of_getElem? (i := 227) rfl), rfl⟩
theorem pm_cd_147 : pm_CDP (⟨"PaidWhereMade", "chance", "(III)Z"⟩, prog_1_method_21_code, 4, (some .boolean), 11, pc_147) := List.mem_filter.mpr ⟨pm_t5 _ (List.mem_of_getElem? (i := 20) rfl), rfl⟩
theorem pm_cd_148 : pm_CDP (⟨"PaidWhereMade", "waiting", "(III)J"⟩, prog_1_method_22_code, 4, (some .long), 11, pc_148) := List.mem_filter.mpr ⟨pm_t5 _ (List.mem_of_getElem? (i := 32) rfl), rfl⟩
theorem pm_cd_149 : pm_CDP (⟨"PaidWhereMade", "line", "(IIII)I"⟩, prog_1_method_23_code, 7, (some .int), 11, pc_149) := List.mem_filter.mpr ⟨pm_t5 _ (List.mem_of_getElem? (i := 68) rfl), rfl⟩
theorem pm_cd_150 : pm_CDP (⟨"PaidWhereMade", "wrong", "(I)I"⟩, prog_1_method_24_code, 2, (some .int), 11, pc_150) := List.mem_filter.mpr ⟨pm_t5 _ (List.mem_of_getElem? (i := 79) rfl), rfl⟩
theorem pm_cd_151 : pm_CDP (⟨"PaidWhereMade", "image", "(Z)Z"⟩, prog_1_method_25_code, 2, (some .boolean), 11, pc_151) := List.mem_filter.mpr ⟨pm_t5 _ (List.mem_of_getElem? (i := 114) rfl), rfl⟩
theorem pm_cd_152 : pm_CDP (⟨"PaidWhereMade", "look", "(I)I"⟩, prog_1_method_26_code, 2, (some .int), 11, pc_152) := List.mem_filter.mpr ⟨pm_t5 _ (List.mem_of_getElem? (i := 143) rfl), rfl⟩
theorem pm_cd_153 : pm_CDP (⟨"PaidWhereMade", "lookAtSetting", "(I)I"⟩, prog_1_method_27_code, 2, (some .int), 11, pc_153) := List.mem_filter.mpr ⟨pm_t5 _ (List.mem_of_getElem? (i := 151) rfl), rfl⟩
theorem pm_cd_154 : pm_CDP (⟨"PaidWhereMade", "isSunday", "(I)Z"⟩, prog_1_method_28_code, 1, (some .boolean), 11, pc_154) := List.mem_filter.mpr ⟨pm_t5 _ (List.mem_of_getElem? (i := 71) rfl), rfl⟩
theorem pm_cd_155 : pm_CDP (⟨"PaidWhereMade", "isSetOf", "(II)Z"⟩, prog_1_method_29_code, 2, (some .boolean), 11, pc_155) := List.mem_filter.mpr ⟨pm_t4 _ (List.mem_of_getElem? (i := 203) rfl), rfl⟩
theorem pm_cd_156 : pm_CDP (⟨"PaidWhereMade", "isIn", "(II)Z"⟩, prog_1_method_30_code, 2, (some .boolean), 11, pc_156) := List.mem_filter.mpr ⟨pm_t4 _ (List.mem_of_getElem? (i := 15) rfl), rfl⟩
theorem pm_cd_157 : pm_CDP (⟨"PaidWhereMade", "copyRow", "([I[I)V"⟩, prog_1_method_31_code, 2, none, 11, pc_157) := List.mem_filter.mpr ⟨pm_t3 _ (List.mem_of_getElem? (i := 198) rfl), rfl⟩
theorem pm_cd_158 : pm_CDP (⟨"PaidWhereMadeModel", "<init>", "()V"⟩, prog_14_method_1_code, 1, none, 12, pc_158) := List.mem_filter.mpr ⟨pm_t5 _ (List.mem_of_getElem? (i := 156) rfl), rfl⟩
theorem pm_cd_159 : pm_CDP (⟨"PaidWhereMadeModel", "isIn", "(III)Z"⟩, prog_14_method_3_code, 4, (some .boolean), 12, pc_159) := List.mem_filter.mpr ⟨pm_t6 _ (List.mem_of_getElem? (i := 131) rfl), rfl⟩
theorem pm_cd_160 : pm_CDP (⟨"PaidWhereMadeModel", "ones", "(I)I"⟩, prog_14_method_4_code, 4, (some .int), 12, pc_160) := List.mem_filter.mpr ⟨pm_t7 _ (List.mem_of_getElem? (i := 139) rfl), rfl⟩
theorem pm_cd_161 : pm_CDP (⟨"PaidWhereMadeModel", "state", "(I)I"⟩, prog_14_method_5_code, 3, (some .int), 12, pc_161) := List.mem_filter.mpr ⟨pm_t6 _ (List.mem_of_getElem? (i := 123) rfl), rfl⟩
theorem pm_cd_162 : pm_CDP (⟨"PaidWhereMadeModel", "draw", "(I)I"⟩, prog_14_method_6_code, 2, (some .int), 12, pc_162) := List.mem_filter.mpr ⟨pm_t7 _ (List.mem_of_getElem? (i := 32) rfl), rfl⟩
theorem pm_cd_163 : pm_CDP (⟨"PaidWhereMadeModel", "isSpot", "(I)Z"⟩, prog_14_method_7_code, 2, (some .boolean), 12, pc_163) := List.mem_filter.mpr ⟨pm_t6 _ (List.mem_of_getElem? (i := 139) rfl), rfl⟩
theorem pm_cd_164 : pm_CDP (⟨"PaidWhereMadeModel", "isOne", "(I)Z"⟩, prog_14_method_8_code, 2, (some .boolean), 12, pc_164) := List.mem_filter.mpr ⟨pm_t6 _ (List.mem_of_getElem? (i := 152) rfl), rfl⟩
theorem pm_cd_165 : pm_CDP (⟨"PaidWhereMadeModel", "milesOf", "(II)I"⟩, prog_14_method_9_code, 3, (some .int), 12, pc_165) := List.mem_filter.mpr ⟨pm_t7 _ (List.mem_of_getElem? (i := 42) rfl), rfl⟩
theorem pm_cd_166 : pm_CDP (⟨"PaidWhereMadeModel", "spot", "(I)I"⟩, prog_14_method_10_code, 2, (some .int), 12, pc_166) := List.mem_filter.mpr ⟨pm_t6 _ (List.mem_of_getElem? (i := 127) rfl), rfl⟩
theorem pm_cd_167 : pm_CDP (⟨"PaidWhereMadeModel", "way", "(III)Z"⟩, prog_14_method_11_code, 4, (some .boolean), 12, pc_167) := List.mem_filter.mpr ⟨pm_t6 _ (List.mem_of_getElem? (i := 135) rfl), rfl⟩
theorem pm_cd_168 : pm_CDP (⟨"PaidWhereMadeModel", "person", "(III)I"⟩, prog_14_method_12_code, 4, (some .int), 12, pc_168) := List.mem_filter.mpr ⟨pm_t6 _ (List.mem_of_getElem? (i := 143) rfl), rfl⟩
theorem pm_cd_169 : pm_CDP (⟨"PaidWhereMadeModel", "debt", "(IIII)I"⟩, prog_14_method_13_code, 5, (some .int), 12, pc_169) := List.mem_filter.mpr ⟨pm_t6 _ (List.mem_of_getElem? (i := 148) rfl), rfl⟩
theorem pm_cd_170 : pm_CDP (⟨"PaidWhereMadeModel", "leastOf", "(I)I"⟩, prog_14_method_14_code, 2, (some .int), 12, pc_170) := List.mem_filter.mpr ⟨pm_t6 _ (List.mem_of_getElem? (i := 160) rfl), rfl⟩
theorem pm_cd_171 : pm_CDP (⟨"PaidWhereMadeModel", "mostOf", "(I)I"⟩, prog_14_method_15_code, 2, (some .int), 12, pc_171) := List.mem_filter.mpr ⟨pm_t6 _ (List.mem_of_getElem? (i := 164) rfl), rfl⟩
theorem pm_cd_172 : pm_CDP (⟨"PaidWhereMadeModel", "set", "(II)Z"⟩, prog_14_method_16_code, 3, (some .boolean), 12, pc_172) := List.mem_filter.mpr ⟨pm_t6 _ (List.mem_of_getElem? (i := 156) rfl), rfl⟩
theorem pm_cd_173 : pm_CDP (⟨"PaidWhereMadeModel", "goal", "(II)Z"⟩, prog_14_method_17_code, 3, (some .boolean), 12, pc_173) := List.mem_filter.mpr ⟨pm_t6 _ (List.mem_of_getElem? (i := 168) rfl), rfl⟩
theorem pm_cd_174 : pm_CDP (⟨"PaidWhereMadeModel", "types", "(I)V"⟩, prog_14_method_18_code, 3, none, 12, pc_174) := List.mem_filter.mpr ⟨pm_t6 _ (List.mem_of_getElem? (i := 176) rfl), rfl⟩
theorem pm_cd_175 : pm_CDP (⟨"PaidWhereMadeModel", "feed", "(IIIII)I"⟩, prog_14_method_19_code, 6, (some .int), 12, pc_175) := List.mem_filter.mpr ⟨pm_t6 _ (List.mem_of_getElem? (i := 172) rfl), rfl⟩
theorem pm_cd_176 : pm_CDP (⟨"PaidWhereMadeModel", "end", "(I)Z"⟩, prog_14_method_20_code, 2, (some .boolean), 12, pc_176) := List.mem_filter.mpr ⟨pm_t6 _ (List.mem_of_getElem? (i := 180) rfl), rfl⟩
theorem pm_cd_177 : pm_CDP (⟨"PaidWhereMadeModel", "raw", "(I)I"⟩, prog_14_method_21_code, 2, (some .int), 12, pc_177) := List.mem_filter.mpr ⟨pm_t6 _ (List.mem_of_getElem? (i := 192) rfl), rfl⟩
theorem pm_cd_178 : pm_CDP (⟨"PaidWhereMadeModel", "isLetter", "(I)Z"⟩, prog_14_method_22_code, 2, (some .boolean), 12, pc_178) := List.mem_filter.mpr ⟨pm_t6 _ (List.mem_of_getElem? (i := 196) rfl), rfl⟩
theorem pm_cd_179 : pm_CDP (⟨"PaidWhereMadeModel", "isDigit", "(I)Z"⟩, prog_14_method_23_code, 2, (some .boolean), 12, pc_179) := List.mem_filter.mpr ⟨pm_t6 _ (List.mem_of_getElem? (i := 204) rfl), rfl⟩
theorem pm_cd_180 : pm_CDP (⟨"PaidWhereMadeModel", "isMarkSign", "(I)Z"⟩, prog_14_method_24_code, 2, (some .boolean), 12, pc_180) := List.mem_filter.mpr ⟨pm_t6 _ (List.mem_of_getElem? (i := 208) rfl), rfl⟩
theorem pm_cd_181 : pm_CDP (⟨"PaidWhereMadeModel", "wordAt", "(II)I"⟩, prog_14_method_25_code, 6, (some .int), 12, pc_181) := List.mem_filter.mpr ⟨pm_t6 _ (List.mem_of_getElem? (i := 200) rfl), rfl⟩
theorem pm_cd_182 : pm_CDP (⟨"PaidWhereMadeModel", "reads", "()V"⟩, prog_14_method_26_code, 2, none, 12, pc_182) := List.mem_filter.mpr ⟨pm_t6 _ (List.mem_of_getElem? (i := 188) rfl), rfl⟩
theorem pm_cd_183 : pm_CDP (⟨"PaidWhereMadeModel", "errs", "(I)I"⟩, prog_14_method_27_code, 2, (some .int), 12, pc_183) := List.mem_filter.mpr ⟨pm_t6 _ (List.mem_of_getElem? (i := 216) rfl), rfl⟩
theorem pm_cd_184 : pm_CDP (⟨"PaidWhereMadeModel", "isWord", "(I)Z"⟩, prog_14_method_28_code, 2, (some .boolean), 12, pc_184) := List.mem_filter.mpr ⟨pm_t6 _ (List.mem_of_getElem? (i := 220) rfl), rfl⟩
theorem pm_cd_185 : pm_CDP (⟨"PaidWhereMadeModel", "isSign", "(I)Z"⟩, prog_14_method_29_code, 2, (some .boolean), 12, pc_185) := List.mem_filter.mpr ⟨pm_t6 _ (List.mem_of_getElem? (i := 228) rfl), rfl⟩
theorem pm_cd_186 : pm_CDP (⟨"PaidWhereMadeModel", "emits", "(II)V"⟩, prog_14_method_30_code, 3, none, 12, pc_186) := List.mem_filter.mpr ⟨pm_t7 _ (List.mem_of_getElem? (i := 12) rfl), rfl⟩
theorem pm_cd_187 : pm_CDP (⟨"PaidWhereMadeModel", "readUnit", "()I"⟩, prog_14_method_31_code, 2, (some .int), 12, pc_187) := List.mem_filter.mpr ⟨pm_t7 _ (List.mem_of_getElem? (i := 8) rfl), rfl⟩
theorem pm_cd_188 : pm_CDP (⟨"PaidWhereMadeModel", "readProduct", "()I"⟩, prog_14_method_32_code, 2, (some .int), 12, pc_188) := List.mem_filter.mpr ⟨pm_t7 _ (List.mem_of_getElem? (i := 4) rfl), rfl⟩
theorem pm_cd_189 : pm_CDP (⟨"PaidWhereMadeModel", "readSum", "()I"⟩, prog_14_method_33_code, 2, (some .int), 12, pc_189) := List.mem_filter.mpr ⟨pm_t7 _ (List.mem_of_getElem? (i := 0) rfl), rfl⟩
theorem pm_cd_190 : pm_CDP (⟨"PaidWhereMadeModel", "readCompared", "()I"⟩, prog_14_method_34_code, 2, (some .int), 12, pc_190) := List.mem_filter.mpr ⟨pm_t6 _ (List.mem_of_getElem? (i := 236) rfl), rfl⟩
theorem pm_cd_191 : pm_CDP (⟨"PaidWhereMadeModel", "waits", "(I)V"⟩, prog_14_method_35_code, 2, none, 12, pc_191) := List.mem_filter.mpr ⟨pm_t6 _ (List.mem_of_getElem? (i := 232) rfl), rfl⟩
theorem pm_cd_192 : pm_CDP (⟨"PaidWhereMadeModel", "settles", "(I)V"⟩, prog_14_method_36_code, 2, none, 12, pc_192) := List.mem_filter.mpr ⟨pm_t7 _ (List.mem_of_getElem? (i := 16) rfl), rfl⟩
theorem pm_cd_193 : pm_CDP (⟨"PaidWhereMadeModel", "readAny", "()I"⟩, prog_14_method_37_code, 4, (some .int), 12, pc_193) := List.mem_filter.mpr ⟨pm_t6 _ (List.mem_of_getElem? (i := 224) rfl), rfl⟩
theorem pm_cd_194 : pm_CDP (⟨"PaidWhereMadeModel", "readText", "()I"⟩, prog_14_method_38_code, 3, (some .int), 12, pc_194) := List.mem_filter.mpr ⟨pm_t6 _ (List.mem_of_getElem? (i := 212) rfl), rfl⟩
theorem pm_cd_195 : pm_CDP (⟨"PaidWhereMadeModel", "text", "()I"⟩, prog_14_method_39_code, 3, (some .int), 12, pc_195) := List.mem_filter.mpr ⟨pm_t6 _ (List.mem_of_getElem? (i := 184) rfl), rfl⟩
theorem pm_cd_196 : pm_CDP (⟨"PaidWhereMadeModel", "fault", "(I)I"⟩, prog_14_method_40_code, 2, (some .int), 12, pc_196) := List.mem_filter.mpr ⟨pm_t7 _ (List.mem_of_getElem? (i := 20) rfl), rfl⟩
theorem pm_cd_197 : pm_CDP (⟨"PaidWhereMadeModel", "twoOf", "(III)I"⟩, prog_14_method_41_code, 4, (some .int), 12, pc_197) := List.mem_filter.mpr ⟨pm_t7 _ (List.mem_of_getElem? (i := 90) rfl), rfl⟩
theorem pm_cd_198 : pm_CDP (⟨"PaidWhereMadeModel", "isSo", "(II)Z"⟩, prog_14_method_42_code, 5, (some .boolean), 12, pc_198) := List.mem_filter.mpr ⟨pm_t7 _ (List.mem_of_getElem? (i := 86) rfl), rfl⟩
theorem pm_cd_199 : pm_CDP (⟨"PaidWhereMadeModel", "isOpen", "(I)Z"⟩, prog_14_method_43_code, 2, (some .boolean), 12, pc_199) := List.mem_filter.mpr ⟨pm_t7 _ (List.mem_of_getElem? (i := 58) rfl), rfl⟩
theorem pm_cd_200 : pm_CDP (⟨"PaidWhereMadeModel", "hereAt", "(I)I"⟩, prog_14_method_44_code, 4, (some .int), 12, pc_200) := List.mem_filter.mpr ⟨pm_t7 _ (List.mem_of_getElem? (i := 82) rfl), rfl⟩
theorem pm_cd_201 : pm_CDP (⟨"PaidWhereMadeModel", "lets", "(I)Z"⟩, prog_14_method_45_code, 3, (some .boolean), 12, pc_201) := List.mem_filter.mpr ⟨pm_t7 _ (List.mem_of_getElem? (i := 78) rfl), rfl⟩
theorem pm_cd_202 : pm_CDP (⟨"PaidWhereMadeModel", "goes", "(Z)V"⟩, prog_14_method_46_code, 5, none, 12, pc_202) := List.mem_filter.mpr ⟨pm_t7 _ (List.mem_of_getElem? (i := 38) rfl), rfl⟩
theorem pm_cd_203 : pm_CDP (⟨"PaidWhereMadeModel", "areBothAt", "(II)Z"⟩, prog_14_method_47_code, 3, (some .boolean), 12, pc_203) := List.mem_filter.mpr ⟨pm_t7 _ (List.mem_of_getElem? (i := 62) rfl), rfl⟩
theorem pm_cd_204 : pm_CDP (⟨"PaidWhereMadeModel", "findsRound", "(II)Z"⟩, prog_14_method_48_code, 5, (some .boolean), 12, pc_204) := List.mem_filter.mpr ⟨pm_t7 _ (List.mem_of_getElem? (i := 50) rfl), rfl⟩
theorem pm_cd_205 : pm_CDP (⟨"PaidWhereMadeModel", "canBeNext", "(IIII)Z"⟩, prog_14_method_49_code, 6, (some .boolean), 12, pc_205) := List.mem_filter.mpr ⟨pm_t7 _ (List.mem_of_getElem? (i := 54) rfl), rfl⟩
theorem pm_cd_206 : pm_CDP (⟨"PaidWhereMadeModel", "isPaid", "(II)V"⟩, prog_14_method_50_code, 3, none, 12, pc_206) := List.mem_filter.mpr ⟨pm_t7 _ (List.mem_of_getElem? (i := 70) rfl), rfl⟩
theorem pm_cd_207 : pm_CDP (⟨"PaidWhereMadeModel", "cancels", "(I)V"⟩, prog_14_method_51_code, 4, none, 12, pc_207) := List.mem_filter.mpr ⟨pm_t7 _ (List.mem_of_getElem? (i := 66) rfl), rfl⟩
theorem pm_cd_208 : pm_CDP (⟨"PaidWhereMadeModel", "cancelsAt", "(I)V"⟩, prog_14_method_52_code, 3, none, 12, pc_208) := List.mem_filter.mpr ⟨pm_t7 _ (List.mem_of_getElem? (i := 46) rfl), rfl⟩
theorem pm_cd_209 : pm_CDP (⟨"PaidWhereMadeModel", "pays", "(I)V"⟩, prog_14_method_53_code, 2, none, 12, pc_209) := List.mem_filter.mpr ⟨pm_t7 _ (List.mem_of_getElem? (i := 74) rfl), rfl⟩
theorem pm_cd_210 : pm_CDP (⟨"PaidWhereMadeModel", "goesBy", "()I"⟩, prog_14_method_54_code, 4, (some .int), 12, pc_210) := List.mem_filter.mpr ⟨pm_t7 _ (List.mem_of_getElem? (i := 28) rfl), rfl⟩
theorem pm_cd_211 : pm_CDP (⟨"PaidWhereMadeModel", "sunday", "()I"⟩, prog_14_method_55_code, 1, (some .int), 12, pc_211) := List.mem_filter.mpr ⟨pm_t7 _ (List.mem_of_getElem? (i := 24) rfl), rfl⟩
theorem pm_cd_212 : pm_CDP (⟨"PaidWhereMadeModel", "pass", "(I)I"⟩, prog_14_method_56_code, 4, (some .int), 12, pc_212) := List.mem_filter.mpr ⟨pm_t7 _ (List.mem_of_getElem? (i := 94) rfl), rfl⟩
theorem pm_cd_213 : pm_CDP (⟨"PaidWhereMadeModel", "sumOf", "(IZ)I"⟩, prog_14_method_57_code, 5, (some .int), 12, pc_213) := List.mem_filter.mpr ⟨pm_t7 _ (List.mem_of_getElem? (i := 102) rfl), rfl⟩
theorem pm_cd_214 : pm_CDP (⟨"PaidWhereMadeModel", "of", "(II)I"⟩, prog_14_method_58_code, 3, (some .int), 12, pc_214) := List.mem_filter.mpr ⟨pm_t7 _ (List.mem_of_getElem? (i := 98) rfl), rfl⟩
theorem pm_cd_215 : pm_CDP (⟨"PaidWhereMadeModel", "owed", "(II)I"⟩, prog_14_method_59_code, 3, (some .int), 12, pc_215) := List.mem_filter.mpr ⟨pm_t7 _ (List.mem_of_getElem? (i := 106) rfl), rfl⟩
theorem pm_cd_216 : pm_CDP (⟨"PaidWhereMadeModel", "areOnOne", "(I)Z"⟩, prog_14_method_60_code, 7, (some .boolean), 12, pc_216) := List.mem_filter.mpr ⟨pm_t7 _ (List.mem_of_getElem? (i := 118) rfl), rfl⟩
theorem pm_cd_217 : pm_CDP (⟨"PaidWhereMadeModel", "greatest", "(II)I"⟩, prog_14_method_61_code, 4, (some .int), 12, pc_217) := List.mem_filter.mpr ⟨pm_t7 _ (List.mem_of_getElem? (i := 127) rfl), rfl⟩
theorem pm_cd_218 : pm_CDP (⟨"PaidWhereMadeModel", "leastFor", "(I)I"⟩, prog_14_method_62_code, 4, (some .int), 12, pc_218) := List.mem_filter.mpr ⟨pm_t7 _ (List.mem_of_getElem? (i := 122) rfl), rfl⟩
theorem pm_cd_219 : pm_CDP (⟨"PaidWhereMadeModel", "takesOpen", "(I)V"⟩, prog_14_method_63_code, 3, none, 12, pc_219) := List.mem_filter.mpr ⟨pm_t7 _ (List.mem_of_getElem? (i := 114) rfl), rfl⟩
theorem pm_cd_220 : pm_CDP (⟨"PaidWhereMadeModel", "cleared", "(I)I"⟩, prog_14_method_64_code, 6, (some .int), 12, pc_220) := List.mem_filter.mpr ⟨pm_t7 _ (List.mem_of_getElem? (i := 110) rfl), rfl⟩
theorem pm_cd_221 : pm_CDP (⟨"PaidWhereMadeModel", "grown", "(II)I"⟩, prog_14_method_65_code, 5, (some .int), 12, pc_221) := List.mem_filter.mpr ⟨pm_t7 _ (List.mem_of_getElem? (i := 143) rfl), rfl⟩
theorem pm_cd_222 : pm_CDP (⟨"PaidWhereMadeModel", "costWith", "(II)I"⟩, prog_14_method_66_code, 3, (some .int), 12, pc_222) := List.mem_filter.mpr ⟨pm_t7 _ (List.mem_of_getElem? (i := 135) rfl), rfl⟩
theorem pm_cd_223 : pm_CDP (⟨"PaidWhereMadeModel", "first", "(II)I"⟩, prog_14_method_67_code, 6, (some .int), 12, pc_223) := List.mem_filter.mpr ⟨pm_t7 _ (List.mem_of_getElem? (i := 131) rfl), rfl⟩
theorem pm_cd_224 : pm_CDP (⟨"PaidWhereMadeModel", "tourFrom", "(II)I"⟩, prog_14_method_68_code, 8, (some .int), 12, pc_224) := List.mem_filter.mpr ⟨pm_t7 _ (List.mem_of_getElem? (i := 151) rfl), rfl⟩
theorem pm_cd_225 : pm_CDP (⟨"PaidWhereMadeModel", "tour", "(II)I"⟩, prog_14_method_69_code, 3, (some .int), 12, pc_225) := List.mem_filter.mpr ⟨pm_t7 _ (List.mem_of_getElem? (i := 147) rfl), rfl⟩
theorem pm_cd_226 : pm_CDP (⟨"PaidWhereMadeModel", "homesOf", "(I)I"⟩, prog_14_method_70_code, 4, (some .int), 12, pc_226) := List.mem_filter.mpr ⟨pm_t7 _ (List.mem_of_getElem? (i := 167) rfl), rfl⟩
theorem pm_cd_227 : pm_CDP (⟨"PaidWhereMadeModel", "factorial", "(I)I"⟩, prog_14_method_71_code, 4, (some .int), 12, pc_227) := List.mem_filter.mpr ⟨pm_t7 _ (List.mem_of_getElem? (i := 159) rfl), rfl⟩
theorem pm_cd_228 : pm_CDP (⟨"PaidWhereMadeModel", "coach", "(II)I"⟩, prog_14_method_72_code, 3, (some .int), 12, pc_228) := List.mem_filter.mpr ⟨pm_t7 _ (List.mem_of_getElem? (i := 163) rfl), rfl⟩
theorem pm_cd_229 : pm_CDP (⟨"PaidWhereMadeModel", "share", "(IIII)I"⟩, prog_14_method_73_code, 13, (some .int), 12, pc_229) := List.mem_filter.mpr ⟨pm_t7 _ (List.mem_of_getElem? (i := 155) rfl), rfl⟩
theorem pm_cd_230 : pm_CDP (⟨"PaidWhereMadeModel", "chance", "(III)Z"⟩, prog_14_method_74_code, 6, (some .boolean), 12, pc_230) := List.mem_filter.mpr ⟨pm_t7 _ (List.mem_of_getElem? (i := 171) rfl), rfl⟩
theorem pm_cd_231 : pm_CDP (⟨"PaidWhereMadeModel", "hoursOf", "(II)I"⟩, prog_14_method_75_code, 4, (some .int), 12, pc_231) := List.mem_filter.mpr ⟨pm_t7 _ (List.mem_of_getElem? (i := 193) rfl), rfl⟩
theorem pm_cd_232 : pm_CDP (⟨"PaidWhereMadeModel", "hundreds", "(I)J"⟩, prog_14_method_76_code, 5, (some .long), 12, pc_232) := List.mem_filter.mpr ⟨pm_t7 _ (List.mem_of_getElem? (i := 197) rfl), rfl⟩
theorem pm_cd_233 : pm_CDP (⟨"PaidWhereMadeModel", "standing", "(II)J"⟩, prog_14_method_77_code, 3, (some .long), 12, pc_233) := List.mem_filter.mpr ⟨pm_t7 _ (List.mem_of_getElem? (i := 184) rfl), rfl⟩
theorem pm_cd_234 : pm_CDP (⟨"PaidWhereMadeModel", "walking", "(IIII)J"⟩, prog_14_method_78_code, 6, (some .long), 12, pc_234) := List.mem_filter.mpr ⟨pm_t7 _ (List.mem_of_getElem? (i := 189) rfl), rfl⟩
theorem pm_cd_235 : pm_CDP (⟨"PaidWhereMadeModel", "findsMissed", "(I)V"⟩, prog_14_method_79_code, 7, none, 12, pc_235) := List.mem_filter.mpr ⟨pm_t7 _ (List.mem_of_getElem? (i := 180) rfl), rfl⟩
theorem pm_cd_236 : pm_CDP (⟨"PaidWhereMadeModel", "placeIn", "(III)I"⟩, prog_14_method_80_code, 7, (some .int), 12, pc_236) := List.mem_filter.mpr ⟨pm_t7 _ (List.mem_of_getElem? (i := 201) rfl), rfl⟩
theorem pm_cd_237 : pm_CDP (⟨"PaidWhereMadeModel", "walksOn", "(II)V"⟩, prog_14_method_81_code, 5, none, 12, pc_237) := List.mem_filter.mpr ⟨pm_t7 _ (List.mem_of_getElem? (i := 205) rfl), rfl⟩
theorem pm_cd_238 : pm_CDP (⟨"PaidWhereMadeModel", "waiting", "(III)J"⟩, prog_14_method_82_code, 4, (some .long), 12, pc_238) := List.mem_filter.mpr ⟨pm_t7 _ (List.mem_of_getElem? (i := 175) rfl), rfl⟩
theorem pm_cd_239 : pm_CDP (⟨"PaidWhereMadeModel", "line", "(IIII)I"⟩, prog_14_method_83_code, 7, (some .int), 12, pc_239) := List.mem_filter.mpr ⟨pm_t7 _ (List.mem_of_getElem? (i := 209) rfl), rfl⟩
theorem pm_cd_240 : pm_CDP (⟨"PaidWhereMadeModel", "wrongWith", "(I)I"⟩, prog_14_method_84_code, 5, (some .int), 12, pc_240) := List.mem_filter.mpr ⟨pm_t7 _ (List.mem_of_getElem? (i := 217) rfl), rfl⟩
theorem pm_cd_241 : pm_CDP (⟨"PaidWhereMadeModel", "wrong", "(I)I"⟩, prog_14_method_85_code, 8, (some .int), 12, pc_241) := List.mem_filter.mpr ⟨pm_t7 _ (List.mem_of_getElem? (i := 213) rfl), rfl⟩
theorem pm_cd_242 : pm_CDP (⟨"PaidWhereMadeModel", "kept", "(I)I"⟩, prog_14_method_86_code, 2, (some .int), 12, pc_242) := List.mem_filter.mpr ⟨pm_t7 _ (List.mem_of_getElem? (i := 225) rfl), rfl⟩
theorem pm_cd_243 : pm_CDP (⟨"PaidWhereMadeModel", "keepsDebts", "()V"⟩, prog_14_method_87_code, 2, none, 12, pc_243) := List.mem_filter.mpr ⟨pm_t7 _ (List.mem_of_getElem? (i := 229) rfl), rfl⟩
theorem pm_cd_244 : pm_CDP (⟨"PaidWhereMadeModel", "keepsLaw", "()V"⟩, prog_14_method_88_code, 2, none, 12, pc_244) := List.mem_filter.mpr ⟨pm_t7 _ (List.mem_of_getElem? (i := 233) rfl), rfl⟩
theorem pm_cd_245 : pm_CDP (⟨"PaidWhereMadeModel", "image", "(Z)Z"⟩, prog_14_method_89_code, 3, (some .boolean), 12, pc_245) := List.mem_filter.mpr ⟨pm_t7 _ (List.mem_of_getElem? (i := 221) rfl), rfl⟩
theorem pm_cd_246 : pm_CDP (⟨"PaidWhereMadeModel", "look", "(I)I"⟩, prog_14_method_90_code, 2, (some .int), 12, pc_246) := List.mem_filter.mpr ⟨pm_t7 _ (List.mem_of_getElem? (i := 237) rfl), rfl⟩
theorem pm_cd_247 : pm_CDP (⟨"java/util/Arrays", "fill", "([II)V"⟩, prog_21_method_103_code, 4, none, 14, pc_247) := List.mem_filter.mpr ⟨pm_t1 _ (List.mem_of_getElem? (i := 44) rfl), rfl⟩
theorem pm_cd_248 : pm_CDP (⟨"java/lang/String", "length", "()I"⟩, prog_17_method_54_code, 1, (some .int), 15, pc_248) := List.mem_filter.mpr ⟨pm_t3 _ (List.mem_of_getElem? (i := 65) rfl), rfl⟩
theorem pm_cd_249 : pm_CDP (⟨"java/lang/String", "coder", "()B"⟩, prog_17_method_152_code, 1, (some .byte), 15, pc_249) := List.mem_filter.mpr ⟨pm_t3 _ (List.mem_of_getElem? (i := 69) rfl), rfl⟩
theorem pm_cd_250 : pm_CDP (⟨"java/lang/String", "charAt", "(I)C"⟩, prog_17_method_56_code, 2, (some .char), 15, pc_250) := List.mem_filter.mpr ⟨pm_t3 _ (List.mem_of_getElem? (i := 75) rfl), rfl⟩
theorem pm_cd_251 : pm_CDP (⟨"java/lang/String", "isLatin1", "()Z"⟩, prog_17_method_154_code, 1, (some .boolean), 15, pc_251) := List.mem_filter.mpr ⟨pm_t3 _ (List.mem_of_getElem? (i := 79) rfl), rfl⟩
theorem pm_cd_252 : pm_CDP (⟨"java/lang/StringLatin1", "charAt", "([BI)C"⟩, prog_18_method_2_code, 2, (some .char), 16, pc_252) := List.mem_filter.mpr ⟨pm_t3 _ (List.mem_of_getElem? (i := 82) rfl), rfl⟩
theorem pm_cd_253 : pm_CDP (⟨"java/lang/String", "checkIndex", "(II)V"⟩, prog_17_method_155_code, 2, none, 15, pc_253) := List.mem_filter.mpr ⟨pm_t3 _ (List.mem_of_getElem? (i := 85) rfl), rfl⟩
theorem pm_cd_254 : pm_CDP (⟨"jdk/internal/util/Preconditions", "checkIndex", "(IILjava/util/function/BiFunction;)I"⟩, prog_22_method_11_code, 3, (some .int), 17, pc_254) := List.mem_filter.mpr ⟨pm_t3 _ (List.mem_of_getElem? (i := 90) rfl), rfl⟩
theorem pm_cd_255 : pm_CDP (⟨"java/lang/Integer", "bitCount", "(I)I"⟩, prog_15_method_49_code, 1, (some .int), 13, pc_255) := List.mem_filter.mpr ⟨pm_t4 _ (List.mem_of_getElem? (i := 149) rfl), rfl⟩
theorem pm_cdc_0 : ∀ M ∈ pm_tab_0, pm_CDP M := List.forall_mem_cons.mpr ⟨pm_cd_0, List.forall_mem_cons.mpr ⟨pm_cd_1, List.forall_mem_cons.mpr ⟨pm_cd_2, List.forall_mem_cons.mpr ⟨pm_cd_3, List.forall_mem_cons.mpr ⟨pm_cd_4, List.forall_mem_cons.mpr ⟨pm_cd_5, List.forall_mem_cons.mpr ⟨pm_cd_6, List.forall_mem_cons.mpr ⟨pm_cd_7, List.forall_mem_cons.mpr ⟨pm_cd_8, List.forall_mem_cons.mpr ⟨pm_cd_9, List.forall_mem_cons.mpr ⟨pm_cd_10, List.forall_mem_cons.mpr ⟨pm_cd_11, List.forall_mem_cons.mpr ⟨pm_cd_12, List.forall_mem_cons.mpr ⟨pm_cd_13, List.forall_mem_cons.mpr ⟨pm_cd_14, List.forall_mem_cons.mpr ⟨pm_cd_15, fun _ h => absurd h List.not_mem_nil⟩⟩⟩⟩⟩⟩⟩⟩⟩⟩⟩⟩⟩⟩⟩⟩
theorem pm_cdc_1 : ∀ M ∈ pm_tab_1, pm_CDP M := List.forall_mem_cons.mpr ⟨pm_cd_16, List.forall_mem_cons.mpr ⟨pm_cd_17, List.forall_mem_cons.mpr ⟨pm_cd_18, List.forall_mem_cons.mpr ⟨pm_cd_19, List.forall_mem_cons.mpr ⟨pm_cd_20, List.forall_mem_cons.mpr ⟨pm_cd_21, List.forall_mem_cons.mpr ⟨pm_cd_22, List.forall_mem_cons.mpr ⟨pm_cd_23, List.forall_mem_cons.mpr ⟨pm_cd_24, List.forall_mem_cons.mpr ⟨pm_cd_25, List.forall_mem_cons.mpr ⟨pm_cd_26, List.forall_mem_cons.mpr ⟨pm_cd_27, List.forall_mem_cons.mpr ⟨pm_cd_28, List.forall_mem_cons.mpr ⟨pm_cd_29, List.forall_mem_cons.mpr ⟨pm_cd_30, List.forall_mem_cons.mpr ⟨pm_cd_31, fun _ h => absurd h List.not_mem_nil⟩⟩⟩⟩⟩⟩⟩⟩⟩⟩⟩⟩⟩⟩⟩⟩
theorem pm_cdc_2 : ∀ M ∈ pm_tab_2, pm_CDP M := List.forall_mem_cons.mpr ⟨pm_cd_32, List.forall_mem_cons.mpr ⟨pm_cd_33, List.forall_mem_cons.mpr ⟨pm_cd_34, List.forall_mem_cons.mpr ⟨pm_cd_35, List.forall_mem_cons.mpr ⟨pm_cd_36, List.forall_mem_cons.mpr ⟨pm_cd_37, List.forall_mem_cons.mpr ⟨pm_cd_38, List.forall_mem_cons.mpr ⟨pm_cd_39, List.forall_mem_cons.mpr ⟨pm_cd_40, List.forall_mem_cons.mpr ⟨pm_cd_41, List.forall_mem_cons.mpr ⟨pm_cd_42, List.forall_mem_cons.mpr ⟨pm_cd_43, List.forall_mem_cons.mpr ⟨pm_cd_44, List.forall_mem_cons.mpr ⟨pm_cd_45, List.forall_mem_cons.mpr ⟨pm_cd_46, List.forall_mem_cons.mpr ⟨pm_cd_47, fun _ h => absurd h List.not_mem_nil⟩⟩⟩⟩⟩⟩⟩⟩⟩⟩⟩⟩⟩⟩⟩⟩
theorem pm_cdc_3 : ∀ M ∈ pm_tab_3, pm_CDP M := List.forall_mem_cons.mpr ⟨pm_cd_48, List.forall_mem_cons.mpr ⟨pm_cd_49, List.forall_mem_cons.mpr ⟨pm_cd_50, List.forall_mem_cons.mpr ⟨pm_cd_51, List.forall_mem_cons.mpr ⟨pm_cd_52, List.forall_mem_cons.mpr ⟨pm_cd_53, List.forall_mem_cons.mpr ⟨pm_cd_54, List.forall_mem_cons.mpr ⟨pm_cd_55, List.forall_mem_cons.mpr ⟨pm_cd_56, List.forall_mem_cons.mpr ⟨pm_cd_57, List.forall_mem_cons.mpr ⟨pm_cd_58, List.forall_mem_cons.mpr ⟨pm_cd_59, List.forall_mem_cons.mpr ⟨pm_cd_60, List.forall_mem_cons.mpr ⟨pm_cd_61, List.forall_mem_cons.mpr ⟨pm_cd_62, List.forall_mem_cons.mpr ⟨pm_cd_63, fun _ h => absurd h List.not_mem_nil⟩⟩⟩⟩⟩⟩⟩⟩⟩⟩⟩⟩⟩⟩⟩⟩
theorem pm_cdc_4 : ∀ M ∈ pm_tab_4, pm_CDP M := List.forall_mem_cons.mpr ⟨pm_cd_64, List.forall_mem_cons.mpr ⟨pm_cd_65, List.forall_mem_cons.mpr ⟨pm_cd_66, List.forall_mem_cons.mpr ⟨pm_cd_67, List.forall_mem_cons.mpr ⟨pm_cd_68, List.forall_mem_cons.mpr ⟨pm_cd_69, List.forall_mem_cons.mpr ⟨pm_cd_70, List.forall_mem_cons.mpr ⟨pm_cd_71, List.forall_mem_cons.mpr ⟨pm_cd_72, List.forall_mem_cons.mpr ⟨pm_cd_73, List.forall_mem_cons.mpr ⟨pm_cd_74, List.forall_mem_cons.mpr ⟨pm_cd_75, List.forall_mem_cons.mpr ⟨pm_cd_76, List.forall_mem_cons.mpr ⟨pm_cd_77, List.forall_mem_cons.mpr ⟨pm_cd_78, List.forall_mem_cons.mpr ⟨pm_cd_79, fun _ h => absurd h List.not_mem_nil⟩⟩⟩⟩⟩⟩⟩⟩⟩⟩⟩⟩⟩⟩⟩⟩
theorem pm_cdc_5 : ∀ M ∈ pm_tab_5, pm_CDP M := List.forall_mem_cons.mpr ⟨pm_cd_80, List.forall_mem_cons.mpr ⟨pm_cd_81, List.forall_mem_cons.mpr ⟨pm_cd_82, List.forall_mem_cons.mpr ⟨pm_cd_83, List.forall_mem_cons.mpr ⟨pm_cd_84, List.forall_mem_cons.mpr ⟨pm_cd_85, List.forall_mem_cons.mpr ⟨pm_cd_86, List.forall_mem_cons.mpr ⟨pm_cd_87, List.forall_mem_cons.mpr ⟨pm_cd_88, List.forall_mem_cons.mpr ⟨pm_cd_89, List.forall_mem_cons.mpr ⟨pm_cd_90, List.forall_mem_cons.mpr ⟨pm_cd_91, List.forall_mem_cons.mpr ⟨pm_cd_92, List.forall_mem_cons.mpr ⟨pm_cd_93, List.forall_mem_cons.mpr ⟨pm_cd_94, List.forall_mem_cons.mpr ⟨pm_cd_95, fun _ h => absurd h List.not_mem_nil⟩⟩⟩⟩⟩⟩⟩⟩⟩⟩⟩⟩⟩⟩⟩⟩
theorem pm_cdc_6 : ∀ M ∈ pm_tab_6, pm_CDP M := List.forall_mem_cons.mpr ⟨pm_cd_96, List.forall_mem_cons.mpr ⟨pm_cd_97, List.forall_mem_cons.mpr ⟨pm_cd_98, List.forall_mem_cons.mpr ⟨pm_cd_99, List.forall_mem_cons.mpr ⟨pm_cd_100, List.forall_mem_cons.mpr ⟨pm_cd_101, List.forall_mem_cons.mpr ⟨pm_cd_102, List.forall_mem_cons.mpr ⟨pm_cd_103, List.forall_mem_cons.mpr ⟨pm_cd_104, List.forall_mem_cons.mpr ⟨pm_cd_105, List.forall_mem_cons.mpr ⟨pm_cd_106, List.forall_mem_cons.mpr ⟨pm_cd_107, List.forall_mem_cons.mpr ⟨pm_cd_108, List.forall_mem_cons.mpr ⟨pm_cd_109, List.forall_mem_cons.mpr ⟨pm_cd_110, List.forall_mem_cons.mpr ⟨pm_cd_111, fun _ h => absurd h List.not_mem_nil⟩⟩⟩⟩⟩⟩⟩⟩⟩⟩⟩⟩⟩⟩⟩⟩
theorem pm_cdc_7 : ∀ M ∈ pm_tab_7, pm_CDP M := List.forall_mem_cons.mpr ⟨pm_cd_112, List.forall_mem_cons.mpr ⟨pm_cd_113, List.forall_mem_cons.mpr ⟨pm_cd_114, List.forall_mem_cons.mpr ⟨pm_cd_115, List.forall_mem_cons.mpr ⟨pm_cd_116, List.forall_mem_cons.mpr ⟨pm_cd_117, List.forall_mem_cons.mpr ⟨pm_cd_118, List.forall_mem_cons.mpr ⟨pm_cd_119, List.forall_mem_cons.mpr ⟨pm_cd_120, List.forall_mem_cons.mpr ⟨pm_cd_121, List.forall_mem_cons.mpr ⟨pm_cd_122, List.forall_mem_cons.mpr ⟨pm_cd_123, List.forall_mem_cons.mpr ⟨pm_cd_124, List.forall_mem_cons.mpr ⟨pm_cd_125, List.forall_mem_cons.mpr ⟨pm_cd_126, List.forall_mem_cons.mpr ⟨pm_cd_127, fun _ h => absurd h List.not_mem_nil⟩⟩⟩⟩⟩⟩⟩⟩⟩⟩⟩⟩⟩⟩⟩⟩
theorem pm_cdc_8 : ∀ M ∈ pm_tab_8, pm_CDP M := List.forall_mem_cons.mpr ⟨pm_cd_128, List.forall_mem_cons.mpr ⟨pm_cd_129, List.forall_mem_cons.mpr ⟨pm_cd_130, List.forall_mem_cons.mpr ⟨pm_cd_131, List.forall_mem_cons.mpr ⟨pm_cd_132, List.forall_mem_cons.mpr ⟨pm_cd_133, List.forall_mem_cons.mpr ⟨pm_cd_134, List.forall_mem_cons.mpr ⟨pm_cd_135, List.forall_mem_cons.mpr ⟨pm_cd_136, List.forall_mem_cons.mpr ⟨pm_cd_137, List.forall_mem_cons.mpr ⟨pm_cd_138, List.forall_mem_cons.mpr ⟨pm_cd_139, List.forall_mem_cons.mpr ⟨pm_cd_140, List.forall_mem_cons.mpr ⟨pm_cd_141, List.forall_mem_cons.mpr ⟨pm_cd_142, List.forall_mem_cons.mpr ⟨pm_cd_143, fun _ h => absurd h List.not_mem_nil⟩⟩⟩⟩⟩⟩⟩⟩⟩⟩⟩⟩⟩⟩⟩⟩
theorem pm_cdc_9 : ∀ M ∈ pm_tab_9, pm_CDP M := List.forall_mem_cons.mpr ⟨pm_cd_144, List.forall_mem_cons.mpr ⟨pm_cd_145, List.forall_mem_cons.mpr ⟨pm_cd_146, List.forall_mem_cons.mpr ⟨pm_cd_147, List.forall_mem_cons.mpr ⟨pm_cd_148, List.forall_mem_cons.mpr ⟨pm_cd_149, List.forall_mem_cons.mpr ⟨pm_cd_150, List.forall_mem_cons.mpr ⟨pm_cd_151, List.forall_mem_cons.mpr ⟨pm_cd_152, List.forall_mem_cons.mpr ⟨pm_cd_153, List.forall_mem_cons.mpr ⟨pm_cd_154, List.forall_mem_cons.mpr ⟨pm_cd_155, List.forall_mem_cons.mpr ⟨pm_cd_156, List.forall_mem_cons.mpr ⟨pm_cd_157, List.forall_mem_cons.mpr ⟨pm_cd_158, List.forall_mem_cons.mpr ⟨pm_cd_159, fun _ h => absurd h List.not_mem_nil⟩⟩⟩⟩⟩⟩⟩⟩⟩⟩⟩⟩⟩⟩⟩⟩
theorem pm_cdc_10 : ∀ M ∈ pm_tab_10, pm_CDP M := List.forall_mem_cons.mpr ⟨pm_cd_160, List.forall_mem_cons.mpr ⟨pm_cd_161, List.forall_mem_cons.mpr ⟨pm_cd_162, List.forall_mem_cons.mpr ⟨pm_cd_163, List.forall_mem_cons.mpr ⟨pm_cd_164, List.forall_mem_cons.mpr ⟨pm_cd_165, List.forall_mem_cons.mpr ⟨pm_cd_166, List.forall_mem_cons.mpr ⟨pm_cd_167, List.forall_mem_cons.mpr ⟨pm_cd_168, List.forall_mem_cons.mpr ⟨pm_cd_169, List.forall_mem_cons.mpr ⟨pm_cd_170, List.forall_mem_cons.mpr ⟨pm_cd_171, List.forall_mem_cons.mpr ⟨pm_cd_172, List.forall_mem_cons.mpr ⟨pm_cd_173, List.forall_mem_cons.mpr ⟨pm_cd_174, List.forall_mem_cons.mpr ⟨pm_cd_175, fun _ h => absurd h List.not_mem_nil⟩⟩⟩⟩⟩⟩⟩⟩⟩⟩⟩⟩⟩⟩⟩⟩
theorem pm_cdc_11 : ∀ M ∈ pm_tab_11, pm_CDP M := List.forall_mem_cons.mpr ⟨pm_cd_176, List.forall_mem_cons.mpr ⟨pm_cd_177, List.forall_mem_cons.mpr ⟨pm_cd_178, List.forall_mem_cons.mpr ⟨pm_cd_179, List.forall_mem_cons.mpr ⟨pm_cd_180, List.forall_mem_cons.mpr ⟨pm_cd_181, List.forall_mem_cons.mpr ⟨pm_cd_182, List.forall_mem_cons.mpr ⟨pm_cd_183, List.forall_mem_cons.mpr ⟨pm_cd_184, List.forall_mem_cons.mpr ⟨pm_cd_185, List.forall_mem_cons.mpr ⟨pm_cd_186, List.forall_mem_cons.mpr ⟨pm_cd_187, List.forall_mem_cons.mpr ⟨pm_cd_188, List.forall_mem_cons.mpr ⟨pm_cd_189, List.forall_mem_cons.mpr ⟨pm_cd_190, List.forall_mem_cons.mpr ⟨pm_cd_191, fun _ h => absurd h List.not_mem_nil⟩⟩⟩⟩⟩⟩⟩⟩⟩⟩⟩⟩⟩⟩⟩⟩
theorem pm_cdc_12 : ∀ M ∈ pm_tab_12, pm_CDP M := List.forall_mem_cons.mpr ⟨pm_cd_192, List.forall_mem_cons.mpr ⟨pm_cd_193, List.forall_mem_cons.mpr ⟨pm_cd_194, List.forall_mem_cons.mpr ⟨pm_cd_195, List.forall_mem_cons.mpr ⟨pm_cd_196, List.forall_mem_cons.mpr ⟨pm_cd_197, List.forall_mem_cons.mpr ⟨pm_cd_198, List.forall_mem_cons.mpr ⟨pm_cd_199, List.forall_mem_cons.mpr ⟨pm_cd_200, List.forall_mem_cons.mpr ⟨pm_cd_201, List.forall_mem_cons.mpr ⟨pm_cd_202, List.forall_mem_cons.mpr ⟨pm_cd_203, List.forall_mem_cons.mpr ⟨pm_cd_204, List.forall_mem_cons.mpr ⟨pm_cd_205, List.forall_mem_cons.mpr ⟨pm_cd_206, List.forall_mem_cons.mpr ⟨pm_cd_207, fun _ h => absurd h List.not_mem_nil⟩⟩⟩⟩⟩⟩⟩⟩⟩⟩⟩⟩⟩⟩⟩⟩
theorem pm_cdc_13 : ∀ M ∈ pm_tab_13, pm_CDP M := List.forall_mem_cons.mpr ⟨pm_cd_208, List.forall_mem_cons.mpr ⟨pm_cd_209, List.forall_mem_cons.mpr ⟨pm_cd_210, List.forall_mem_cons.mpr ⟨pm_cd_211, List.forall_mem_cons.mpr ⟨pm_cd_212, List.forall_mem_cons.mpr ⟨pm_cd_213, List.forall_mem_cons.mpr ⟨pm_cd_214, List.forall_mem_cons.mpr ⟨pm_cd_215, List.forall_mem_cons.mpr ⟨pm_cd_216, List.forall_mem_cons.mpr ⟨pm_cd_217, List.forall_mem_cons.mpr ⟨pm_cd_218, List.forall_mem_cons.mpr ⟨pm_cd_219, List.forall_mem_cons.mpr ⟨pm_cd_220, List.forall_mem_cons.mpr ⟨pm_cd_221, List.forall_mem_cons.mpr ⟨pm_cd_222, List.forall_mem_cons.mpr ⟨pm_cd_223, fun _ h => absurd h List.not_mem_nil⟩⟩⟩⟩⟩⟩⟩⟩⟩⟩⟩⟩⟩⟩⟩⟩
theorem pm_cdc_14 : ∀ M ∈ pm_tab_14, pm_CDP M := List.forall_mem_cons.mpr ⟨pm_cd_224, List.forall_mem_cons.mpr ⟨pm_cd_225, List.forall_mem_cons.mpr ⟨pm_cd_226, List.forall_mem_cons.mpr ⟨pm_cd_227, List.forall_mem_cons.mpr ⟨pm_cd_228, List.forall_mem_cons.mpr ⟨pm_cd_229, List.forall_mem_cons.mpr ⟨pm_cd_230, List.forall_mem_cons.mpr ⟨pm_cd_231, List.forall_mem_cons.mpr ⟨pm_cd_232, List.forall_mem_cons.mpr ⟨pm_cd_233, List.forall_mem_cons.mpr ⟨pm_cd_234, List.forall_mem_cons.mpr ⟨pm_cd_235, List.forall_mem_cons.mpr ⟨pm_cd_236, List.forall_mem_cons.mpr ⟨pm_cd_237, List.forall_mem_cons.mpr ⟨pm_cd_238, List.forall_mem_cons.mpr ⟨pm_cd_239, fun _ h => absurd h List.not_mem_nil⟩⟩⟩⟩⟩⟩⟩⟩⟩⟩⟩⟩⟩⟩⟩⟩
theorem pm_cdc_15 : ∀ M ∈ pm_tab_15, pm_CDP M := List.forall_mem_cons.mpr ⟨pm_cd_240, List.forall_mem_cons.mpr ⟨pm_cd_241, List.forall_mem_cons.mpr ⟨pm_cd_242, List.forall_mem_cons.mpr ⟨pm_cd_243, List.forall_mem_cons.mpr ⟨pm_cd_244, List.forall_mem_cons.mpr ⟨pm_cd_245, List.forall_mem_cons.mpr ⟨pm_cd_246, List.forall_mem_cons.mpr ⟨pm_cd_247, List.forall_mem_cons.mpr ⟨pm_cd_248, List.forall_mem_cons.mpr ⟨pm_cd_249, List.forall_mem_cons.mpr ⟨pm_cd_250, List.forall_mem_cons.mpr ⟨pm_cd_251, List.forall_mem_cons.mpr ⟨pm_cd_252, List.forall_mem_cons.mpr ⟨pm_cd_253, List.forall_mem_cons.mpr ⟨pm_cd_254, List.forall_mem_cons.mpr ⟨pm_cd_255, fun _ h => absurd h List.not_mem_nil⟩⟩⟩⟩⟩⟩⟩⟩⟩⟩⟩⟩⟩⟩⟩⟩
def pm_tabM : List pm_M := pm_tab_0 ++ (pm_tab_1 ++ (pm_tab_2 ++ (pm_tab_3 ++ (pm_tab_4 ++ (pm_tab_5 ++ (pm_tab_6 ++ (pm_tab_7 ++ (pm_tab_8 ++ (pm_tab_9 ++ (pm_tab_10 ++ (pm_tab_11 ++ (pm_tab_12 ++ (pm_tab_13 ++ (pm_tab_14 ++ (pm_tab_15)))))))))))))))
theorem pm_cd_ok : ∀ M ∈ pm_tabM, pm_CDP M := List.forall_mem_append.mpr ⟨pm_cdc_0, List.forall_mem_append.mpr ⟨pm_cdc_1, List.forall_mem_append.mpr ⟨pm_cdc_2, List.forall_mem_append.mpr ⟨pm_cdc_3, List.forall_mem_append.mpr ⟨pm_cdc_4, List.forall_mem_append.mpr ⟨pm_cdc_5, List.forall_mem_append.mpr ⟨pm_cdc_6, List.forall_mem_append.mpr ⟨pm_cdc_7, List.forall_mem_append.mpr ⟨pm_cdc_8, List.forall_mem_append.mpr ⟨pm_cdc_9, List.forall_mem_append.mpr ⟨pm_cdc_10, List.forall_mem_append.mpr ⟨pm_cdc_11, List.forall_mem_append.mpr ⟨pm_cdc_12, List.forall_mem_append.mpr ⟨pm_cdc_13, List.forall_mem_append.mpr ⟨pm_cdc_14, pm_cdc_15⟩⟩⟩⟩⟩⟩⟩⟩⟩⟩⟩⟩⟩⟩⟩
