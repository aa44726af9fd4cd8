/-! ===== the methods, by number; their instructions ===== -/
def q0 : mm_T := (12, ⟨"ShyBellLaw", "law", "([I)Z"⟩, code, 7, ret, 1)
theorem q0_ok : mm_mt[0]? = some q0 := rfl
def q1 : mm_T := (12, ⟨"ShyBellLaw", "person", "(LShyBell;II[J)I"⟩, method_3_code, 6, (some .int), 4)
theorem q1_ok : mm_mt[1]? = some q1 := rfl
def q2 : mm_T := (0, ⟨"ShyBell$Habit", "<init>", "(I)V"⟩, prog_2_method_1_code, 2, (Option.none), 1)
theorem q2_ok : mm_mt[2]? = some q2 := rfl
def q3 : mm_T := (0, ⟨"ShyBell$Habit", "letterOf", "(I)I"⟩, prog_2_method_2_code, 1, (Option.some Jvm.ClassFile.FieldType.int), 1)
theorem q3_ok : mm_mt[3]? = some q3 := rfl
def q4 : mm_T := (0, ⟨"ShyBell$Habit", "clear", "()V"⟩, prog_2_method_3_code, 1, (Option.none), 0)
theorem q4_ok : mm_mt[4]? = some q4 := rfl
def q5 : mm_T := (0, ⟨"ShyBell$Habit", "put", "(I)V"⟩, prog_2_method_4_code, 2, (Option.none), 1)
theorem q5_ok : mm_mt[5]? = some q5 := rfl
def q6 : mm_T := (0, ⟨"ShyBell$Habit", "copy", "(LShyBell$Habit;)V"⟩, prog_2_method_5_code, 3, (Option.none), 1)
theorem q6_ok : mm_mt[6]? = some q6 := rfl
def q7 : mm_T := (0, ⟨"ShyBell$Habit", "heedsOwed", "()Z"⟩, prog_2_method_6_code, 2, (Option.some Jvm.ClassFile.FieldType.boolean), 0)
theorem q7_ok : mm_mt[7]? = some q7 := rfl
def q8 : mm_T := (0, ⟨"ShyBell$Habit", "worth", "([I)I"⟩, prog_2_method_7_code, 7, (Option.some Jvm.ClassFile.FieldType.int), 1)
theorem q8_ok : mm_mt[8]? = some q8 := rfl
def q9 : mm_T := (0, ⟨"ShyBell$Habit", "joined", "(IJJ)I"⟩, prog_2_method_8_code, 7, (Option.some Jvm.ClassFile.FieldType.int), 3)
theorem q9_ok : mm_mt[9]? = some q9 := rfl
def q10 : mm_T := (1, ⟨"ShyBell$HabitReader", "<init>", "(LShyBell$Signs;LShyBell$Habit;)V"⟩, prog_3_method_1_code, 3, (Option.none), 2)
theorem q10_ok : mm_mt[10]? = some q10 := rfl
def q11 : mm_T := (1, ⟨"ShyBell$HabitReader", "read", "()I"⟩, prog_3_method_2_code, 3, (Option.some Jvm.ClassFile.FieldType.int), 0)
theorem q11_ok : mm_mt[11]? = some q11 := rfl
def q12 : mm_T := (1, ⟨"ShyBell$HabitReader", "readClause", "()Z"⟩, prog_3_method_3_code, 3, (Option.some Jvm.ClassFile.FieldType.boolean), 0)
theorem q12_ok : mm_mt[12]? = some q12 := rfl
def q13 : mm_T := (1, ⟨"ShyBell$HabitReader", "readCondition", "(I)Z"⟩, prog_3_method_4_code, 2, (Option.some Jvm.ClassFile.FieldType.boolean), 1)
theorem q13_ok : mm_mt[13]? = some q13 := rfl
def q14 : mm_T := (1, ⟨"ShyBell$HabitReader", "readMoreTruths", "(I)Z"⟩, prog_3_method_5_code, 3, (Option.some Jvm.ClassFile.FieldType.boolean), 1)
theorem q14_ok : mm_mt[14]? = some q14 := rfl
def q15 : mm_T := (1, ⟨"ShyBell$HabitReader", "readTruth", "(I)Z"⟩, prog_3_method_6_code, 2, (Option.some Jvm.ClassFile.FieldType.boolean), 1)
theorem q15_ok : mm_mt[15]? = some q15 := rfl
def q16 : mm_T := (1, ⟨"ShyBell$HabitReader", "readMoreUnits", "(I)Z"⟩, prog_3_method_7_code, 3, (Option.some Jvm.ClassFile.FieldType.boolean), 1)
theorem q16_ok : mm_mt[16]? = some q16 := rfl
def q17 : mm_T := (1, ⟨"ShyBell$HabitReader", "readUnit", "(I)Z"⟩, prog_3_method_8_code, 3, (Option.some Jvm.ClassFile.FieldType.boolean), 1)
theorem q17_ok : mm_mt[17]? = some q17 := rfl
def q18 : mm_T := (1, ⟨"ShyBell$HabitReader", "readDenied", "(I)Z"⟩, prog_3_method_9_code, 2, (Option.some Jvm.ClassFile.FieldType.boolean), 1)
theorem q18_ok : mm_mt[18]? = some q18 := rfl
def q19 : mm_T := (1, ⟨"ShyBell$HabitReader", "readComparison", "(I)Z"⟩, prog_3_method_10_code, 3, (Option.some Jvm.ClassFile.FieldType.boolean), 1)
theorem q19_ok : mm_mt[19]? = some q19 := rfl
def q20 : mm_T := (1, ⟨"ShyBell$HabitReader", "comparison", "(I)I"⟩, prog_3_method_11_code, 1, (Option.some Jvm.ClassFile.FieldType.int), 1)
theorem q20_ok : mm_mt[20]? = some q20 := rfl
def q21 : mm_T := (1, ⟨"ShyBell$HabitReader", "readSum", "(I)Z"⟩, prog_3_method_12_code, 4, (Option.some Jvm.ClassFile.FieldType.boolean), 1)
theorem q21_ok : mm_mt[21]? = some q21 := rfl
def q22 : mm_T := (1, ⟨"ShyBell$HabitReader", "readTerm", "(I)Z"⟩, prog_3_method_13_code, 4, (Option.some Jvm.ClassFile.FieldType.boolean), 1)
theorem q22_ok : mm_mt[22]? = some q22 := rfl
def q23 : mm_T := (1, ⟨"ShyBell$HabitReader", "readAtom", "(I)Z"⟩, prog_3_method_14_code, 5, (Option.some Jvm.ClassFile.FieldType.boolean), 1)
theorem q23_ok : mm_mt[23]? = some q23 := rfl
def q24 : mm_T := (2, ⟨"ShyBell$Notes", "<init>", "()V"⟩, prog_4_method_1_code, 1, (Option.none), 0)
theorem q24_ok : mm_mt[24]? = some q24 := rfl
def q25 : mm_T := (2, ⟨"ShyBell$Notes", "forget", "()V"⟩, prog_4_method_2_code, 1, (Option.none), 0)
theorem q25_ok : mm_mt[25]? = some q25 := rfl
def q26 : mm_T := (2, ⟨"ShyBell$Notes", "add", "(IZ)V"⟩, prog_4_method_3_code, 3, (Option.none), 2)
theorem q26_ok : mm_mt[26]? = some q26 := rfl
def q27 : mm_T := (2, ⟨"ShyBell$Notes", "furthest", "()I"⟩, prog_4_method_4_code, 3, (Option.some Jvm.ClassFile.FieldType.int), 0)
theorem q27_ok : mm_mt[27]? = some q27 := rfl
def q28 : mm_T := (2, ⟨"ShyBell$Notes", "fit", "([ZI)Z"⟩, prog_4_method_5_code, 5, (Option.some Jvm.ClassFile.FieldType.boolean), 2)
theorem q28_ok : mm_mt[28]? = some q28 := rfl
def q29 : mm_T := (3, ⟨"ShyBell$Past", "<init>", "()V"⟩, prog_5_method_1_code, 2, (Option.none), 0)
theorem q29_ok : mm_mt[29]? = some q29 := rfl
def q30 : mm_T := (3, ⟨"ShyBell$Past", "forget", "()V"⟩, prog_5_method_2_code, 1, (Option.none), 0)
theorem q30_ok : mm_mt[30]? = some q30 := rfl
def q31 : mm_T := (3, ⟨"ShyBell$Past", "keep", "(LShyBell$Tower;)V"⟩, prog_5_method_3_code, 2, (Option.none), 1)
theorem q31_ok : mm_mt[31]? = some q31 := rfl
def q32 : mm_T := (3, ⟨"ShyBell$Past", "restore", "(LShyBell$Tower;)Z"⟩, prog_5_method_4_code, 3, (Option.some Jvm.ClassFile.FieldType.boolean), 1)
theorem q32_ok : mm_mt[32]? = some q32 := rfl
def q33 : mm_T := (4, ⟨"ShyBell$Signs", "<init>", "(LShyBell$Tape;)V"⟩, prog_6_method_1_code, 2, (Option.none), 1)
theorem q33_ok : mm_mt[33]? = some q33 := rfl
def q34 : mm_T := (4, ⟨"ShyBell$Signs", "restart", "()V"⟩, prog_6_method_2_code, 1, (Option.none), 0)
theorem q34_ok : mm_mt[34]? = some q34 := rfl
def q35 : mm_T := (4, ⟨"ShyBell$Signs", "peek", "()I"⟩, prog_6_method_3_code, 2, (Option.some Jvm.ClassFile.FieldType.int), 0)
theorem q35_ok : mm_mt[35]? = some q35 := rfl
def q36 : mm_T := (4, ⟨"ShyBell$Signs", "skip", "()V"⟩, prog_6_method_4_code, 1, (Option.none), 0)
theorem q36_ok : mm_mt[36]? = some q36 := rfl
def q37 : mm_T := (4, ⟨"ShyBell$Signs", "passes", "(I)Z"⟩, prog_6_method_5_code, 2, (Option.some Jvm.ClassFile.FieldType.boolean), 1)
theorem q37_ok : mm_mt[37]? = some q37 := rfl
def q38 : mm_T := (4, ⟨"ShyBell$Signs", "takes", "(I)Z"⟩, prog_6_method_6_code, 2, (Option.some Jvm.ClassFile.FieldType.boolean), 1)
theorem q38_ok : mm_mt[38]? = some q38 := rfl
def q39 : mm_T := (4, ⟨"ShyBell$Signs", "refuse", "(I)Z"⟩, prog_6_method_7_code, 2, (Option.some Jvm.ClassFile.FieldType.boolean), 1)
theorem q39_ok : mm_mt[39]? = some q39 := rfl
def q40 : mm_T := (4, ⟨"ShyBell$Signs", "digit", "()I"⟩, prog_6_method_8_code, 2, (Option.some Jvm.ClassFile.FieldType.int), 0)
theorem q40_ok : mm_mt[40]? = some q40 := rfl
def q41 : mm_T := (4, ⟨"ShyBell$Signs", "number", "(I)I"⟩, prog_6_method_9_code, 4, (Option.some Jvm.ClassFile.FieldType.int), 1)
theorem q41_ok : mm_mt[41]? = some q41 := rfl
def q42 : mm_T := (5, ⟨"ShyBell$Tape", "<init>", "()V"⟩, prog_7_method_1_code, 1, (Option.none), 0)
theorem q42_ok : mm_mt[42]? = some q42 := rfl
def q43 : mm_T := (5, ⟨"ShyBell$Tape", "bytesIn", "(I)I"⟩, prog_7_method_2_code, 3, (Option.some Jvm.ClassFile.FieldType.int), 1)
theorem q43_ok : mm_mt[43]? = some q43 := rfl
def q44 : mm_T := (5, ⟨"ShyBell$Tape", "add", "(I)V"⟩, prog_7_method_3_code, 4, (Option.none), 1)
theorem q44_ok : mm_mt[44]? = some q44 := rfl
def q45 : mm_T := (6, ⟨"ShyBell$Tower", "<init>", "()V"⟩, prog_8_method_1_code, 1, (Option.none), 0)
theorem q45_ok : mm_mt[45]? = some q45 := rfl
def q46 : mm_T := (6, ⟨"ShyBell$Tower", "restart", "()V"⟩, prog_8_method_2_code, 2, (Option.none), 0)
theorem q46_ok : mm_mt[46]? = some q46 := rfl
def q47 : mm_T := (6, ⟨"ShyBell$Tower", "copy", "(LShyBell$Tower;)V"⟩, prog_8_method_3_code, 3, (Option.none), 1)
theorem q47_ok : mm_mt[47]? = some q47 := rfl
def q48 : mm_T := (6, ⟨"ShyBell$Tower", "draw", "()I"⟩, prog_8_method_4_code, 1, (Option.some Jvm.ClassFile.FieldType.int), 0)
theorem q48_ok : mm_mt[48]? = some q48 := rfl
def q49 : mm_T := (6, ⟨"ShyBell$Tower", "pass", "(LShyBell$Town;Z)I"⟩, prog_8_method_5_code, 6, (Option.some Jvm.ClassFile.FieldType.int), 2)
theorem q49_ok : mm_mt[49]? = some q49 := rfl
def q50 : mm_T := (7, ⟨"ShyBell$Town", "<init>", "()V"⟩, prog_9_method_1_code, 1, (Option.none), 0)
theorem q50_ok : mm_mt[50]? = some q50 := rfl
def q51 : mm_T := (7, ⟨"ShyBell$Town", "clear", "()V"⟩, prog_9_method_2_code, 2, (Option.none), 0)
theorem q51_ok : mm_mt[51]? = some q51 := rfl
def q52 : mm_T := (7, ⟨"ShyBell$Town", "copy", "(LShyBell$Town;)V"⟩, prog_9_method_3_code, 3, (Option.none), 1)
theorem q52_ok : mm_mt[52]? = some q52 := rfl
def q53 : mm_T := (7, ⟨"ShyBell$Town", "copyRow", "([I[I)V"⟩, prog_9_method_4_code, 3, (Option.none), 2)
theorem q53_ok : mm_mt[53]? = some q53 := rfl
def q54 : mm_T := (7, ⟨"ShyBell$Town", "addPerson", "()[I"⟩, prog_9_method_5_code, 1, (Option.some (Jvm.ClassFile.FieldType.array Jvm.ClassFile.FieldType.int)), 0)
theorem q54_ok : mm_mt[54]? = some q54 := rfl
def q55 : mm_T := (7, ⟨"ShyBell$Town", "addBell", "()[I"⟩, prog_9_method_6_code, 1, (Option.some (Jvm.ClassFile.FieldType.array Jvm.ClassFile.FieldType.int)), 0)
theorem q55_ok : mm_mt[55]? = some q55 := rfl
def q56 : mm_T := (7, ⟨"ShyBell$Town", "addFog", "()[I"⟩, prog_9_method_7_code, 1, (Option.some (Jvm.ClassFile.FieldType.array Jvm.ClassFile.FieldType.int)), 0)
theorem q56_ok : mm_mt[56]? = some q56 := rfl
def q57 : mm_T := (7, ⟨"ShyBell$Town", "untold", "([I[I)[I"⟩, prog_9_method_8_code, 3, (Option.some (Jvm.ClassFile.FieldType.array Jvm.ClassFile.FieldType.int)), 2)
theorem q57_ok : mm_mt[57]? = some q57 := rfl
def q58 : mm_T := (7, ⟨"ShyBell$Town", "view", "()I"⟩, prog_9_method_9_code, 1, (Option.some Jvm.ClassFile.FieldType.int), 0)
theorem q58_ok : mm_mt[58]? = some q58 := rfl
def q59 : mm_T := (7, ⟨"ShyBell$Town", "isFoggy", "(I)Z"⟩, prog_9_method_10_code, 2, (Option.some Jvm.ClassFile.FieldType.boolean), 1)
theorem q59_ok : mm_mt[59]? = some q59 := rfl
def q60 : mm_T := (7, ⟨"ShyBell$Town", "isOn", "(IIII)Z"⟩, prog_9_method_11_code, 4, (Option.some Jvm.ClassFile.FieldType.boolean), 4)
theorem q60_ok : mm_mt[60]? = some q60 := rfl
def q61 : mm_T := (7, ⟨"ShyBell$Town", "livesHere", "(I)Z"⟩, prog_9_method_12_code, 2, (Option.some Jvm.ClassFile.FieldType.boolean), 1)
theorem q61_ok : mm_mt[61]? = some q61 := rfl
def q62 : mm_T := (7, ⟨"ShyBell$Town", "hangsHere", "(I)Z"⟩, prog_9_method_13_code, 2, (Option.some Jvm.ClassFile.FieldType.boolean), 1)
theorem q62_ok : mm_mt[62]? = some q62 := rfl
def q63 : mm_T := (7, ⟨"ShyBell$Town", "spanIsOn", "(III)Z"⟩, prog_9_method_14_code, 4, (Option.some Jvm.ClassFile.FieldType.boolean), 3)
theorem q63_ok : mm_mt[63]? = some q63 := rfl
def q64 : mm_T := (7, ⟨"ShyBell$Town", "doesLook", "(III)Z"⟩, prog_9_method_15_code, 6, (Option.some Jvm.ClassFile.FieldType.boolean), 3)
theorem q64_ok : mm_mt[64]? = some q64 := rfl
def q65 : mm_T := (7, ⟨"ShyBell$Town", "lookers", "(III)I"⟩, prog_9_method_16_code, 6, (Option.some Jvm.ClassFile.FieldType.int), 3)
theorem q65_ok : mm_mt[65]? = some q65 := rfl
def q66 : mm_T := (7, ⟨"ShyBell$Town", "seers", "(III)I"⟩, prog_9_method_17_code, 4, (Option.some Jvm.ClassFile.FieldType.int), 3)
theorem q66_ok : mm_mt[66]? = some q66 := rfl
def q67 : mm_T := (7, ⟨"ShyBell$Town", "near", "(I)I"⟩, prog_9_method_18_code, 4, (Option.some Jvm.ClassFile.FieldType.int), 1)
theorem q67_ok : mm_mt[67]? = some q67 := rfl
def q68 : mm_T := (7, ⟨"ShyBell$Town", "wavering", "()I"⟩, prog_9_method_19_code, 4, (Option.some Jvm.ClassFile.FieldType.int), 0)
theorem q68_ok : mm_mt[68]? = some q68 := rfl
def q69 : mm_T := (7, ⟨"ShyBell$Town", "reaching", "(I)I"⟩, prog_9_method_20_code, 4, (Option.some Jvm.ClassFile.FieldType.int), 1)
theorem q69_ok : mm_mt[69]? = some q69 := rfl
def q70 : mm_T := (7, ⟨"ShyBell$Town", "due", "(II)I"⟩, prog_9_method_21_code, 5, (Option.some Jvm.ClassFile.FieldType.int), 2)
theorem q70_ok : mm_mt[70]? = some q70 := rfl
def q71 : mm_T := (7, ⟨"ShyBell$Town", "leftBehind", "(IIZ)I"⟩, prog_9_method_22_code, 5, (Option.some Jvm.ClassFile.FieldType.int), 3)
theorem q71_ok : mm_mt[71]? = some q71 := rfl
def q72 : mm_T := (8, ⟨"ShyBell$TownReader", "<init>", "(LShyBell$Signs;LShyBell$Town;)V"⟩, prog_10_method_1_code, 3, (Option.none), 2)
theorem q72_ok : mm_mt[72]? = some q72 := rfl
def q73 : mm_T := (8, ⟨"ShyBell$TownReader", "read", "()I"⟩, prog_10_method_2_code, 3, (Option.some Jvm.ClassFile.FieldType.int), 0)
theorem q73_ok : mm_mt[73]? = some q73 := rfl
def q74 : mm_T := (8, ⟨"ShyBell$TownReader", "readClause", "()Z"⟩, prog_10_method_3_code, 3, (Option.some Jvm.ClassFile.FieldType.boolean), 0)
theorem q74_ok : mm_mt[74]? = some q74 := rfl
def q75 : mm_T := (8, ⟨"ShyBell$TownReader", "readItems", "([I[I)Z"⟩, prog_10_method_4_code, 7, (Option.some Jvm.ClassFile.FieldType.boolean), 2)
theorem q75_ok : mm_mt[75]? = some q75 := rfl
def q76 : mm_T := (8, ⟨"ShyBell$TownReader", "itemOf", "(I[I)I"⟩, prog_10_method_5_code, 3, (Option.some Jvm.ClassFile.FieldType.int), 2)
theorem q76_ok : mm_mt[76]? = some q76 := rfl
def q77 : mm_T := (9, ⟨"ShyBell$Trial", "<init>", "(LShyBell$Town;LShyBell$Tower;)V"⟩, prog_11_method_1_code, 3, (Option.none), 2)
theorem q77_ok : mm_mt[77]? = some q77 := rfl
def q78 : mm_T := (9, ⟨"ShyBell$Trial", "prepare", "(LShyBell$Tower;I)V"⟩, prog_11_method_2_code, 4, (Option.none), 2)
theorem q78_ok : mm_mt[78]? = some q78 := rfl
def q79 : mm_T := (9, ⟨"ShyBell$Trial", "restart", "()V"⟩, prog_11_method_3_code, 1, (Option.none), 0)
theorem q79_ok : mm_mt[79]? = some q79 := rfl
def q80 : mm_T := (9, ⟨"ShyBell$Trial", "move", "(II)V"⟩, prog_11_method_4_code, 3, (Option.none), 2)
theorem q80_ok : mm_mt[80]? = some q80 := rfl
def q81 : mm_T := (9, ⟨"ShyBell$Trial", "lookers", "(II)I"⟩, prog_11_method_5_code, 7, (Option.some Jvm.ClassFile.FieldType.int), 2)
theorem q81_ok : mm_mt[81]? = some q81 := rfl
def q82 : mm_T := (9, ⟨"ShyBell$Trial", "step", "()V"⟩, prog_11_method_6_code, 1, (Option.none), 0)
theorem q82_ok : mm_mt[82]? = some q82 := rfl
def q83 : mm_T := (9, ⟨"ShyBell$Trial", "run", "(I)V"⟩, prog_11_method_7_code, 3, (Option.none), 1)
theorem q83_ok : mm_mt[83]? = some q83 := rfl
def q84 : mm_T := (9, ⟨"ShyBell$Trial", "lateness", "(II)I"⟩, prog_11_method_8_code, 5, (Option.some Jvm.ClassFile.FieldType.int), 2)
theorem q84_ok : mm_mt[84]? = some q84 := rfl
def q85 : mm_T := (9, ⟨"ShyBell$Trial", "offer", "(II)V"⟩, prog_11_method_9_code, 3, (Option.none), 2)
theorem q85_ok : mm_mt[85]? = some q85 := rfl
def q86 : mm_T := (9, ⟨"ShyBell$Trial", "isStillUnder", "(II)Z"⟩, prog_11_method_10_code, 4, (Option.some Jvm.ClassFile.FieldType.boolean), 2)
theorem q86_ok : mm_mt[86]? = some q86 := rfl
def q87 : mm_T := (10, ⟨"ShyBell", "<init>", "()V"⟩, prog_1_method_1_code, 2, (Option.none), 0)
theorem q87_ok : mm_mt[87]? = some q87 := rfl
def q88 : mm_T := (10, ⟨"ShyBell", "feed", "(IIIII)I"⟩, prog_1_method_2_code, 7, (Option.some Jvm.ClassFile.FieldType.int), 5)
theorem q88_ok : mm_mt[88]? = some q88 := rfl
def q89 : mm_T := (10, ⟨"ShyBell", "end", "(I)Z"⟩, prog_1_method_3_code, 2, (Option.some Jvm.ClassFile.FieldType.boolean), 1)
theorem q89_ok : mm_mt[89]? = some q89 := rfl
def q90 : mm_T := (10, ⟨"ShyBell", "fault", "(I)I"⟩, prog_1_method_4_code, 2, (Option.some Jvm.ClassFile.FieldType.int), 1)
theorem q90_ok : mm_mt[90]? = some q90 := rfl
def q91 : mm_T := (10, ⟨"ShyBell", "text", "(I)I"⟩, prog_1_method_5_code, 2, (Option.some Jvm.ClassFile.FieldType.int), 1)
theorem q91_ok : mm_mt[91]? = some q91 := rfl
def q92 : mm_T := (10, ⟨"ShyBell", "takeTown", "()I"⟩, prog_1_method_6_code, 1, (Option.some Jvm.ClassFile.FieldType.int), 0)
theorem q92_ok : mm_mt[92]? = some q92 := rfl
def q93 : mm_T := (10, ⟨"ShyBell", "takeHabit", "()I"⟩, prog_1_method_7_code, 1, (Option.some Jvm.ClassFile.FieldType.int), 0)
theorem q93_ok : mm_mt[93]? = some q93 := rfl
def q94 : mm_T := (10, ⟨"ShyBell", "person", "(II)I"⟩, prog_1_method_8_code, 4, (Option.some Jvm.ClassFile.FieldType.int), 2)
theorem q94_ok : mm_mt[94]? = some q94 := rfl
def q95 : mm_T := (10, ⟨"ShyBell", "bell", "(II)I"⟩, prog_1_method_9_code, 3, (Option.some Jvm.ClassFile.FieldType.int), 2)
theorem q95_ok : mm_mt[95]? = some q95 := rfl
def q96 : mm_T := (10, ⟨"ShyBell", "fog", "(I)I"⟩, prog_1_method_10_code, 2, (Option.some Jvm.ClassFile.FieldType.int), 1)
theorem q96_ok : mm_mt[96]? = some q96 := rfl
def q97 : mm_T := (10, ⟨"ShyBell", "set", "(III)Z"⟩, prog_1_method_11_code, 4, (Option.some Jvm.ClassFile.FieldType.boolean), 3)
theorem q97_ok : mm_mt[97]? = some q97 := rfl
def q98 : mm_T := (10, ⟨"ShyBell", "setHabit", "(II)Z"⟩, prog_1_method_12_code, 3, (Option.some Jvm.ClassFile.FieldType.boolean), 2)
theorem q98_ok : mm_mt[98]? = some q98 := rfl
def q99 : mm_T := (10, ⟨"ShyBell", "risk", "(I)Z"⟩, prog_1_method_13_code, 2, (Option.some Jvm.ClassFile.FieldType.boolean), 1)
theorem q99_ok : mm_mt[99]? = some q99 := rfl
def q100 : mm_T := (10, ⟨"ShyBell", "seed", "(J)Z"⟩, prog_1_method_14_code, 3, (Option.some Jvm.ClassFile.FieldType.boolean), 1)
theorem q100_ok : mm_mt[100]? = some q100 := rfl
def q101 : mm_T := (10, ⟨"ShyBell", "go", "(I)I"⟩, prog_1_method_15_code, 6, (Option.some Jvm.ClassFile.FieldType.int), 1)
theorem q101_ok : mm_mt[101]? = some q101 := rfl
def q102 : mm_T := (10, ⟨"ShyBell", "undo", "()I"⟩, prog_1_method_16_code, 1, (Option.some Jvm.ClassFile.FieldType.int), 0)
theorem q102_ok : mm_mt[102]? = some q102 := rfl
def q103 : mm_T := (10, ⟨"ShyBell", "ahead", "(III)I"⟩, prog_1_method_17_code, 4, (Option.some Jvm.ClassFile.FieldType.int), 3)
theorem q103_ok : mm_mt[103]? = some q103 := rfl
def q104 : mm_T := (10, ⟨"ShyBell", "strike", "(II)I"⟩, prog_1_method_18_code, 4, (Option.some Jvm.ClassFile.FieldType.int), 2)
theorem q104_ok : mm_mt[104]? = some q104 := rfl
def q105 : mm_T := (10, ⟨"ShyBell", "late", "(II)I"⟩, prog_1_method_19_code, 3, (Option.some Jvm.ClassFile.FieldType.int), 2)
theorem q105_ok : mm_mt[105]? = some q105 := rfl
def q106 : mm_T := (10, ⟨"ShyBell", "bunch", "(II)I"⟩, prog_1_method_20_code, 6, (Option.some Jvm.ClassFile.FieldType.int), 2)
theorem q106_ok : mm_mt[106]? = some q106 := rfl
def q107 : mm_T := (10, ⟨"ShyBell", "ears", "(II)I"⟩, prog_1_method_21_code, 6, (Option.some Jvm.ClassFile.FieldType.int), 2)
theorem q107_ok : mm_mt[107]? = some q107 := rfl
def q108 : mm_T := (10, ⟨"ShyBell", "seen", "(II)I"⟩, prog_1_method_22_code, 8, (Option.some Jvm.ClassFile.FieldType.int), 2)
theorem q108_ok : mm_mt[108]? = some q108 := rfl
def q109 : mm_T := (10, ⟨"ShyBell", "turn", "(I)I"⟩, prog_1_method_23_code, 4, (Option.some Jvm.ClassFile.FieldType.int), 1)
theorem q109_ok : mm_mt[109]? = some q109 := rfl
def q110 : mm_T := (10, ⟨"ShyBell", "stare", "(I)I"⟩, prog_1_method_24_code, 4, (Option.some Jvm.ClassFile.FieldType.int), 1)
theorem q110_ok : mm_mt[110]? = some q110 := rfl
def q111 : mm_T := (10, ⟨"ShyBell", "lovers", "(IIII)I"⟩, prog_1_method_25_code, 9, (Option.some Jvm.ClassFile.FieldType.int), 4)
theorem q111_ok : mm_mt[111]? = some q111 := rfl
def q112 : mm_T := (10, ⟨"ShyBell", "spoil", "(II)I"⟩, prog_1_method_26_code, 4, (Option.some Jvm.ClassFile.FieldType.int), 2)
theorem q112_ok : mm_mt[112]? = some q112 := rfl
def q113 : mm_T := (10, ⟨"ShyBell", "errand", "(III)I"⟩, prog_1_method_27_code, 5, (Option.some Jvm.ClassFile.FieldType.int), 3)
theorem q113_ok : mm_mt[113]? = some q113 := rfl
def q114 : mm_T := (10, ⟨"ShyBell", "note", "(IZ)I"⟩, prog_1_method_28_code, 3, (Option.some Jvm.ClassFile.FieldType.int), 2)
theorem q114_ok : mm_mt[114]? = some q114 := rfl
def q115 : mm_T := (10, ⟨"ShyBell", "times", "(I)I"⟩, prog_1_method_29_code, 5, (Option.some Jvm.ClassFile.FieldType.int), 1)
theorem q115_ok : mm_mt[115]? = some q115 := rfl
def q116 : mm_T := (10, ⟨"ShyBell", "whose", "(II)I"⟩, prog_1_method_30_code, 6, (Option.some Jvm.ClassFile.FieldType.int), 2)
theorem q116_ok : mm_mt[116]? = some q116 := rfl
def q117 : mm_T := (10, ⟨"ShyBell", "odds", "(I)I"⟩, prog_1_method_31_code, 2, (Option.some Jvm.ClassFile.FieldType.int), 1)
theorem q117_ok : mm_mt[117]? = some q117 := rfl
def q118 : mm_T := (10, ⟨"ShyBell", "partsOwingNothing", "(IIIJ)J"⟩, prog_1_method_32_code, 6, (Option.some Jvm.ClassFile.FieldType.long), 4)
theorem q118_ok : mm_mt[118]? = some q118 := rfl
def q119 : mm_T := (10, ⟨"ShyBell", "partsOfBoth", "(IIIJ)J"⟩, prog_1_method_33_code, 11, (Option.some Jvm.ClassFile.FieldType.long), 4)
theorem q119_ok : mm_mt[119]? = some q119 := rfl
def q120 : mm_T := (10, ⟨"ShyBell", "peak", "(III)I"⟩, prog_1_method_34_code, 7, (Option.some Jvm.ClassFile.FieldType.int), 3)
theorem q120_ok : mm_mt[120]? = some q120 := rfl
def q121 : mm_T := (10, ⟨"ShyBell", "free", "(I)I"⟩, prog_1_method_35_code, 3, (Option.some Jvm.ClassFile.FieldType.int), 1)
theorem q121_ok : mm_mt[121]? = some q121 := rfl
def q122 : mm_T := (10, ⟨"ShyBell", "alone", "(II)I"⟩, prog_1_method_36_code, 5, (Option.some Jvm.ClassFile.FieldType.int), 2)
theorem q122_ok : mm_mt[122]? = some q122 := rfl
def q123 : mm_T := (10, ⟨"ShyBell", "hour", "(II)I"⟩, prog_1_method_37_code, 7, (Option.some Jvm.ClassFile.FieldType.int), 2)
theorem q123_ok : mm_mt[123]? = some q123 := rfl
def q124 : mm_T := (10, ⟨"ShyBell", "veil", "(II)I"⟩, prog_1_method_38_code, 4, (Option.some Jvm.ClassFile.FieldType.int), 2)
theorem q124_ok : mm_mt[124]? = some q124 := rfl
def q125 : mm_T := (10, ⟨"ShyBell", "image", "()I"⟩, prog_1_method_39_code, 1, (Option.some Jvm.ClassFile.FieldType.int), 0)
theorem q125_ok : mm_mt[125]? = some q125 := rfl
def q126 : mm_T := (10, ⟨"ShyBell", "back", "()I"⟩, prog_1_method_40_code, 1, (Option.some Jvm.ClassFile.FieldType.int), 0)
theorem q126_ok : mm_mt[126]? = some q126 := rfl
def q127 : mm_T := (10, ⟨"ShyBell", "count", "(I)I"⟩, prog_1_method_41_code, 2, (Option.some Jvm.ClassFile.FieldType.int), 1)
theorem q127_ok : mm_mt[127]? = some q127 := rfl
def q128 : mm_T := (10, ⟨"ShyBell", "hasTown", "()Z"⟩, prog_1_method_42_code, 1, (Option.some Jvm.ClassFile.FieldType.boolean), 0)
theorem q128_ok : mm_mt[128]? = some q128 := rfl
def q129 : mm_T := (10, ⟨"ShyBell", "isPerson", "(I)Z"⟩, prog_1_method_43_code, 2, (Option.some Jvm.ClassFile.FieldType.boolean), 1)
theorem q129_ok : mm_mt[129]? = some q129 := rfl
def q130 : mm_T := (10, ⟨"ShyBell", "isSpanPerson", "(I)Z"⟩, prog_1_method_44_code, 2, (Option.some Jvm.ClassFile.FieldType.boolean), 1)
theorem q130_ok : mm_mt[130]? = some q130 := rfl
def q131 : mm_T := (10, ⟨"ShyBell", "isBell", "(I)Z"⟩, prog_1_method_45_code, 2, (Option.some Jvm.ClassFile.FieldType.boolean), 1)
theorem q131_ok : mm_mt[131]? = some q131 := rfl
def q132 : mm_T := (10, ⟨"ShyBell", "isAhead", "(I)Z"⟩, prog_1_method_46_code, 1, (Option.some Jvm.ClassFile.FieldType.boolean), 1)
theorem q132_ok : mm_mt[132]? = some q132 := rfl
def q133 : mm_T := (11, ⟨"ShyBellModel", "in", "(III)Z"⟩, prog_13_method_1_code, 3, (Option.some Jvm.ClassFile.FieldType.boolean), 3)
theorem q133_ok : mm_mt[133]? = some q133 := rfl
def q134 : mm_T := (11, ⟨"ShyBellModel", "has", "(II)Z"⟩, prog_13_method_2_code, 2, (Option.some Jvm.ClassFile.FieldType.boolean), 2)
theorem q134_ok : mm_mt[134]? = some q134 := rfl
def q135 : mm_T := (11, ⟨"ShyBellModel", "<init>", "()V"⟩, prog_13_method_3_code, 1, (Option.none), 0)
theorem q135_ok : mm_mt[135]? = some q135 := rfl
def q136 : mm_T := (11, ⟨"ShyBellModel", "thrown", "()I"⟩, prog_13_method_4_code, 1, (Option.some Jvm.ClassFile.FieldType.int), 0)
theorem q136_ok : mm_mt[136]? = some q136 := rfl
def q137 : mm_T := (11, ⟨"ShyBellModel", "byteOf", "(IIIIII)I"⟩, prog_13_method_5_code, 7, (Option.some Jvm.ClassFile.FieldType.int), 6)
theorem q137_ok : mm_mt[137]? = some q137 := rfl
def q138 : mm_T := (11, ⟨"ShyBellModel", "feed", "(IIIII)I"⟩, prog_13_method_6_code, 9, (Option.some Jvm.ClassFile.FieldType.int), 5)
theorem q138_ok : mm_mt[138]? = some q138 := rfl
def q139 : mm_T := (11, ⟨"ShyBellModel", "end", "(I)Z"⟩, prog_13_method_7_code, 2, (Option.some Jvm.ClassFile.FieldType.boolean), 1)
theorem q139_ok : mm_mt[139]? = some q139 := rfl
def q140 : mm_T := (11, ⟨"ShyBellModel", "here", "()I"⟩, prog_13_method_8_code, 1, (Option.some Jvm.ClassFile.FieldType.int), 0)
theorem q140_ok : mm_mt[140]? = some q140 := rfl
def q141 : mm_T := (11, ⟨"ShyBellModel", "look", "()I"⟩, prog_13_method_9_code, 1, (Option.some Jvm.ClassFile.FieldType.int), 0)
theorem q141_ok : mm_mt[141]? = some q141 := rfl
def q142 : mm_T := (11, ⟨"ShyBellModel", "bad", "()V"⟩, prog_13_method_10_code, 1, (Option.none), 0)
theorem q142_ok : mm_mt[142]? = some q142 := rfl
def q143 : mm_T := (11, ⟨"ShyBellModel", "isDigit", "(I)Z"⟩, prog_13_method_11_code, 1, (Option.some Jvm.ClassFile.FieldType.boolean), 1)
theorem q143_ok : mm_mt[143]? = some q143 := rfl
def q144 : mm_T := (11, ⟨"ShyBellModel", "put", "(II)V"⟩, prog_13_method_12_code, 3, (Option.none), 2)
theorem q144_ok : mm_mt[144]? = some q144 := rfl
def q145 : mm_T := (11, ⟨"ShyBellModel", "letterOf", "(I)I"⟩, prog_13_method_13_code, 1, (Option.some Jvm.ClassFile.FieldType.int), 1)
theorem q145_ok : mm_mt[145]? = some q145 := rfl
def q146 : mm_T := (11, ⟨"ShyBellModel", "opens", "()V"⟩, prog_13_method_14_code, 1, (Option.none), 0)
theorem q146_ok : mm_mt[146]? = some q146 := rfl
def q147 : mm_T := (11, ⟨"ShyBellModel", "closes", "(I)V"⟩, prog_13_method_15_code, 2, (Option.none), 1)
theorem q147_ok : mm_mt[147]? = some q147 := rfl
def q148 : mm_T := (11, ⟨"ShyBellModel", "plainNumber", "()I"⟩, prog_13_method_16_code, 3, (Option.some Jvm.ClassFile.FieldType.int), 0)
theorem q148_ok : mm_mt[148]? = some q148 := rfl
def q149 : mm_T := (11, ⟨"ShyBellModel", "atom", "()V"⟩, prog_13_method_17_code, 2, (Option.none), 0)
theorem q149_ok : mm_mt[149]? = some q149 := rfl
def q150 : mm_T := (11, ⟨"ShyBellModel", "term", "()V"⟩, prog_13_method_18_code, 2, (Option.none), 0)
theorem q150_ok : mm_mt[150]? = some q150 := rfl
def q151 : mm_T := (11, ⟨"ShyBellModel", "sum", "()V"⟩, prog_13_method_19_code, 2, (Option.none), 0)
theorem q151_ok : mm_mt[151]? = some q151 := rfl
def q152 : mm_T := (11, ⟨"ShyBellModel", "isSign", "(I)Z"⟩, prog_13_method_20_code, 1, (Option.some Jvm.ClassFile.FieldType.boolean), 1)
theorem q152_ok : mm_mt[152]? = some q152 := rfl
def q153 : mm_T := (11, ⟨"ShyBellModel", "compare", "()V"⟩, prog_13_method_21_code, 2, (Option.none), 0)
theorem q153_ok : mm_mt[153]? = some q153 := rfl
def q154 : mm_T := (11, ⟨"ShyBellModel", "unit", "()V"⟩, prog_13_method_22_code, 2, (Option.none), 0)
theorem q154_ok : mm_mt[154]? = some q154 := rfl
def q155 : mm_T := (11, ⟨"ShyBellModel", "goOnAnd", "()V"⟩, prog_13_method_23_code, 1, (Option.none), 0)
theorem q155_ok : mm_mt[155]? = some q155 := rfl
def q156 : mm_T := (11, ⟨"ShyBellModel", "goOnOr", "()V"⟩, prog_13_method_24_code, 1, (Option.none), 0)
theorem q156_ok : mm_mt[156]? = some q156 := rfl
def q157 : mm_T := (11, ⟨"ShyBellModel", "condition", "()V"⟩, prog_13_method_25_code, 1, (Option.none), 0)
theorem q157_ok : mm_mt[157]? = some q157 := rfl
def q158 : mm_T := (11, ⟨"ShyBellModel", "clause", "()V"⟩, prog_13_method_26_code, 3, (Option.none), 0)
theorem q158_ok : mm_mt[158]? = some q158 := rfl
def q159 : mm_T := (11, ⟨"ShyBellModel", "open", "(I)V"⟩, prog_13_method_27_code, 2, (Option.none), 1)
theorem q159_ok : mm_mt[159]? = some q159 := rfl
def q160 : mm_T := (11, ⟨"ShyBellModel", "atEnd", "()I"⟩, prog_13_method_28_code, 1, (Option.some Jvm.ClassFile.FieldType.int), 0)
theorem q160_ok : mm_mt[160]? = some q160 := rfl
def q161 : mm_T := (11, ⟨"ShyBellModel", "readLaw", "(I)I"⟩, prog_13_method_29_code, 2, (Option.some Jvm.ClassFile.FieldType.int), 1)
theorem q161_ok : mm_mt[161]? = some q161 := rfl
def q162 : mm_T := (11, ⟨"ShyBellModel", "bounded", "(J)I"⟩, prog_13_method_30_code, 2, (Option.some Jvm.ClassFile.FieldType.int), 1)
theorem q162_ok : mm_mt[162]? = some q162 := rfl
def q163 : mm_T := (11, ⟨"ShyBellModel", "worked", "(IJJ)I"⟩, prog_13_method_31_code, 5, (Option.some Jvm.ClassFile.FieldType.int), 3)
theorem q163_ok : mm_mt[163]? = some q163 := rfl
def q164 : mm_T := (11, ⟨"ShyBellModel", "workOut", "(III)I"⟩, prog_13_method_32_code, 6, (Option.some Jvm.ClassFile.FieldType.int), 3)
theorem q164_ok : mm_mt[164]? = some q164 := rfl
def q165 : mm_T := (11, ⟨"ShyBellModel", "worthOf", "(I)I"⟩, prog_13_method_33_code, 3, (Option.some Jvm.ClassFile.FieldType.int), 1)
theorem q165_ok : mm_mt[165]? = some q165 := rfl
def q166 : mm_T := (11, ⟨"ShyBellModel", "number", "(II)I"⟩, prog_13_method_34_code, 4, (Option.some Jvm.ClassFile.FieldType.int), 2)
theorem q166_ok : mm_mt[166]? = some q166 := rfl
def q167 : mm_T := (11, ⟨"ShyBellModel", "itemOf", "(II)I"⟩, prog_13_method_35_code, 2, (Option.some Jvm.ClassFile.FieldType.int), 2)
theorem q167_ok : mm_mt[167]? = some q167 := rfl
def q168 : mm_T := (11, ⟨"ShyBellModel", "lowest", "(II)I"⟩, prog_13_method_36_code, 2, (Option.some Jvm.ClassFile.FieldType.int), 2)
theorem q168_ok : mm_mt[168]? = some q168 := rfl
def q169 : mm_T := (11, ⟨"ShyBellModel", "highest", "(II)I"⟩, prog_13_method_37_code, 2, (Option.some Jvm.ClassFile.FieldType.int), 2)
theorem q169_ok : mm_mt[169]? = some q169 := rfl
def q170 : mm_T := (11, ⟨"ShyBellModel", "usual", "(II)I"⟩, prog_13_method_38_code, 2, (Option.some Jvm.ClassFile.FieldType.int), 2)
theorem q170_ok : mm_mt[170]? = some q170 := rfl
def q171 : mm_T := (11, ⟨"ShyBellModel", "items", "(I[III)V"⟩, prog_13_method_39_code, 7, (Option.none), 4)
theorem q171_ok : mm_mt[171]? = some q171 := rfl
def q172 : mm_T := (11, ⟨"ShyBellModel", "clauseText", "()V"⟩, prog_13_method_40_code, 2, (Option.none), 0)
theorem q172_ok : mm_mt[172]? = some q172 := rfl
def q173 : mm_T := (11, ⟨"ShyBellModel", "readTown", "()I"⟩, prog_13_method_41_code, 2, (Option.some Jvm.ClassFile.FieldType.int), 0)
theorem q173_ok : mm_mt[173]? = some q173 := rfl
def q174 : mm_T := (11, ⟨"ShyBellModel", "fault", "(I)I"⟩, prog_13_method_42_code, 2, (Option.some Jvm.ClassFile.FieldType.int), 1)
theorem q174_ok : mm_mt[174]? = some q174 := rfl
def q175 : mm_T := (11, ⟨"ShyBellModel", "takeTown", "()I"⟩, prog_13_method_43_code, 2, (Option.some Jvm.ClassFile.FieldType.int), 0)
theorem q175_ok : mm_mt[175]? = some q175 := rfl
def q176 : mm_T := (11, ⟨"ShyBellModel", "text", "(I)I"⟩, prog_13_method_44_code, 2, (Option.some Jvm.ClassFile.FieldType.int), 1)
theorem q176_ok : mm_mt[176]? = some q176 := rfl
def q177 : mm_T := (11, ⟨"ShyBellModel", "isPerson", "(I)Z"⟩, prog_13_method_45_code, 2, (Option.some Jvm.ClassFile.FieldType.boolean), 1)
theorem q177_ok : mm_mt[177]? = some q177 := rfl
def q178 : mm_T := (11, ⟨"ShyBellModel", "isBell", "(I)Z"⟩, prog_13_method_46_code, 2, (Option.some Jvm.ClassFile.FieldType.boolean), 1)
theorem q178_ok : mm_mt[178]? = some q178 := rfl
def q179 : mm_T := (11, ⟨"ShyBellModel", "isOn", "([III)Z"⟩, prog_13_method_47_code, 3, (Option.some Jvm.ClassFile.FieldType.boolean), 3)
theorem q179_ok : mm_mt[179]? = some q179 := rfl
def q180 : mm_T := (11, ⟨"ShyBellModel", "looks", "(I)Z"⟩, prog_13_method_48_code, 2, (Option.some Jvm.ClassFile.FieldType.boolean), 1)
theorem q180_ok : mm_mt[180]? = some q180 := rfl
def q181 : mm_T := (11, ⟨"ShyBellModel", "isFoggy", "(I)Z"⟩, prog_13_method_49_code, 2, (Option.some Jvm.ClassFile.FieldType.boolean), 1)
theorem q181_ok : mm_mt[181]? = some q181 := rfl
def q182 : mm_T := (11, ⟨"ShyBellModel", "sees", "(I)Z"⟩, prog_13_method_50_code, 2, (Option.some Jvm.ClassFile.FieldType.boolean), 1)
theorem q182_ok : mm_mt[182]? = some q182 := rfl
def q183 : mm_T := (11, ⟨"ShyBellModel", "isSeen", "()Z"⟩, prog_13_method_51_code, 2, (Option.some Jvm.ClassFile.FieldType.boolean), 0)
theorem q183_ok : mm_mt[183]? = some q183 := rfl
def q184 : mm_T := (11, ⟨"ShyBellModel", "pass", "(Z)V"⟩, prog_13_method_52_code, 5, (Option.none), 1)
theorem q184_ok : mm_mt[184]? = some q184 := rfl
def q185 : mm_T := (11, ⟨"ShyBellModel", "person", "(II)I"⟩, prog_13_method_53_code, 3, (Option.some Jvm.ClassFile.FieldType.int), 2)
theorem q185_ok : mm_mt[185]? = some q185 := rfl
def q186 : mm_T := (11, ⟨"ShyBellModel", "bell", "(II)I"⟩, prog_13_method_54_code, 3, (Option.some Jvm.ClassFile.FieldType.int), 2)
theorem q186_ok : mm_mt[186]? = some q186 := rfl
def q187 : mm_T := (11, ⟨"ShyBellModel", "fog", "(I)I"⟩, prog_13_method_55_code, 2, (Option.some Jvm.ClassFile.FieldType.int), 1)
theorem q187_ok : mm_mt[187]? = some q187 := rfl
def q188 : mm_T := (11, ⟨"ShyBellModel", "set", "(III)Z"⟩, prog_13_method_56_code, 4, (Option.some Jvm.ClassFile.FieldType.boolean), 3)
theorem q188_ok : mm_mt[188]? = some q188 := rfl
def q189 : mm_T := (11, ⟨"ShyBellModel", "risk", "(I)Z"⟩, prog_13_method_57_code, 2, (Option.some Jvm.ClassFile.FieldType.boolean), 1)
theorem q189_ok : mm_mt[189]? = some q189 := rfl
def q190 : mm_T := (11, ⟨"ShyBellModel", "seed", "(J)Z"⟩, prog_13_method_58_code, 3, (Option.some Jvm.ClassFile.FieldType.boolean), 1)
theorem q190_ok : mm_mt[190]? = some q190 := rfl
def q191 : mm_T := (11, ⟨"ShyBellModel", "keep", "()V"⟩, prog_13_method_59_code, 2, (Option.none), 0)
theorem q191_ok : mm_mt[191]? = some q191 := rfl
def q192 : mm_T := (11, ⟨"ShyBellModel", "areMinutes", "(I)Z"⟩, prog_13_method_60_code, 2, (Option.some Jvm.ClassFile.FieldType.boolean), 1)
theorem q192_ok : mm_mt[192]? = some q192 := rfl
def q193 : mm_T := (11, ⟨"ShyBellModel", "go", "(I)I"⟩, prog_13_method_61_code, 4, (Option.some Jvm.ClassFile.FieldType.int), 1)
theorem q193_ok : mm_mt[193]? = some q193 := rfl
def q194 : mm_T := (11, ⟨"ShyBellModel", "undo", "()I"⟩, prog_13_method_62_code, 2, (Option.some Jvm.ClassFile.FieldType.int), 0)
theorem q194_ok : mm_mt[194]? = some q194 := rfl
def q195 : mm_T := (11, ⟨"ShyBellModel", "putAside", "()V"⟩, prog_13_method_63_code, 2, (Option.none), 0)
theorem q195_ok : mm_mt[195]? = some q195 := rfl
def q196 : mm_T := (11, ⟨"ShyBellModel", "takeBack", "()V"⟩, prog_13_method_64_code, 2, (Option.none), 0)
theorem q196_ok : mm_mt[196]? = some q196 := rfl
def q197 : mm_T := (11, ⟨"ShyBellModel", "passAll", "(I)V"⟩, prog_13_method_65_code, 3, (Option.none), 1)
theorem q197_ok : mm_mt[197]? = some q197 := rfl
def q198 : mm_T := (11, ⟨"ShyBellModel", "ahead", "(III)I"⟩, prog_13_method_66_code, 5, (Option.some Jvm.ClassFile.FieldType.int), 3)
theorem q198_ok : mm_mt[198]? = some q198 := rfl
def q199 : mm_T := (11, ⟨"ShyBellModel", "strike", "(II)I"⟩, prog_13_method_67_code, 6, (Option.some Jvm.ClassFile.FieldType.int), 2)
theorem q199_ok : mm_mt[199]? = some q199 := rfl
def q200 : mm_T := (11, ⟨"ShyBellModel", "lateOf", "(II)I"⟩, prog_13_method_68_code, 5, (Option.some Jvm.ClassFile.FieldType.int), 2)
theorem q200_ok : mm_mt[200]? = some q200 := rfl
def q201 : mm_T := (11, ⟨"ShyBellModel", "late", "(II)I"⟩, prog_13_method_69_code, 3, (Option.some Jvm.ClassFile.FieldType.int), 2)
theorem q201_ok : mm_mt[201]? = some q201 := rfl
def q202 : mm_T := (11, ⟨"ShyBellModel", "bunch", "(II)I"⟩, prog_13_method_70_code, 6, (Option.some Jvm.ClassFile.FieldType.int), 2)
theorem q202_ok : mm_mt[202]? = some q202 := rfl
def q203 : mm_T := (11, ⟨"ShyBellModel", "ears", "(II)I"⟩, prog_13_method_71_code, 5, (Option.some Jvm.ClassFile.FieldType.int), 2)
theorem q203_ok : mm_mt[203]? = some q203 := rfl
def q204 : mm_T := (11, ⟨"ShyBellModel", "seen", "(II)I"⟩, prog_13_method_72_code, 7, (Option.some Jvm.ClassFile.FieldType.int), 2)
theorem q204_ok : mm_mt[204]? = some q204 := rfl
def q205 : mm_T := (11, ⟨"ShyBellModel", "firstBell", "(II)I"⟩, prog_13_method_73_code, 4, (Option.some Jvm.ClassFile.FieldType.int), 2)
theorem q205_ok : mm_mt[205]? = some q205 := rfl
def q206 : mm_T := (11, ⟨"ShyBellModel", "turn", "(I)I"⟩, prog_13_method_74_code, 4, (Option.some Jvm.ClassFile.FieldType.int), 1)
theorem q206_ok : mm_mt[206]? = some q206 := rfl
def q207 : mm_T := (11, ⟨"ShyBellModel", "stare", "(I)I"⟩, prog_13_method_75_code, 4, (Option.some Jvm.ClassFile.FieldType.int), 1)
theorem q207_ok : mm_mt[207]? = some q207 := rfl
def q208 : mm_T := (11, ⟨"ShyBellModel", "lovers", "(IIII)I"⟩, prog_13_method_76_code, 8, (Option.some Jvm.ClassFile.FieldType.int), 4)
theorem q208_ok : mm_mt[208]? = some q208 := rfl
def q209 : mm_T := (11, ⟨"ShyBellModel", "spoil", "(II)I"⟩, prog_13_method_77_code, 7, (Option.some Jvm.ClassFile.FieldType.int), 2)
theorem q209_ok : mm_mt[209]? = some q209 := rfl
def q210 : mm_T := (11, ⟨"ShyBellModel", "errand", "(III)I"⟩, prog_13_method_78_code, 9, (Option.some Jvm.ClassFile.FieldType.int), 3)
theorem q210_ok : mm_mt[210]? = some q210 := rfl
def q211 : mm_T := (11, ⟨"ShyBellModel", "peak", "(III)I"⟩, prog_13_method_79_code, 7, (Option.some Jvm.ClassFile.FieldType.int), 3)
theorem q211_ok : mm_mt[211]? = some q211 := rfl
def q212 : mm_T := (11, ⟨"ShyBellModel", "free", "(I)I"⟩, prog_13_method_80_code, 4, (Option.some Jvm.ClassFile.FieldType.int), 1)
theorem q212_ok : mm_mt[212]? = some q212 := rfl
def q213 : mm_T := (11, ⟨"ShyBellModel", "alone", "(II)I"⟩, prog_13_method_81_code, 7, (Option.some Jvm.ClassFile.FieldType.int), 2)
theorem q213_ok : mm_mt[213]? = some q213 := rfl
def q214 : mm_T := (11, ⟨"ShyBellModel", "hour", "(II)I"⟩, prog_13_method_82_code, 8, (Option.some Jvm.ClassFile.FieldType.int), 2)
theorem q214_ok : mm_mt[214]? = some q214 := rfl
def q215 : mm_T := (11, ⟨"ShyBellModel", "veil", "(II)I"⟩, prog_13_method_83_code, 8, (Option.some Jvm.ClassFile.FieldType.int), 2)
theorem q215_ok : mm_mt[215]? = some q215 := rfl
def q216 : mm_T := (11, ⟨"ShyBellModel", "note", "(IZ)I"⟩, prog_13_method_84_code, 3, (Option.some Jvm.ClassFile.FieldType.int), 2)
theorem q216_ok : mm_mt[216]? = some q216 := rfl
def q217 : mm_T := (11, ⟨"ShyBellModel", "agrees", "(I)Z"⟩, prog_13_method_85_code, 3, (Option.some Jvm.ClassFile.FieldType.boolean), 1)
theorem q217_ok : mm_mt[217]? = some q217 := rfl
def q218 : mm_T := (11, ⟨"ShyBellModel", "times", "(I)I"⟩, prog_13_method_86_code, 4, (Option.some Jvm.ClassFile.FieldType.int), 1)
theorem q218_ok : mm_mt[218]? = some q218 := rfl
def q219 : mm_T := (11, ⟨"ShyBellModel", "whose", "(II)I"⟩, prog_13_method_87_code, 8, (Option.some Jvm.ClassFile.FieldType.int), 2)
theorem q219_ok : mm_mt[219]? = some q219 := rfl
def q220 : mm_T := (11, ⟨"ShyBellModel", "oddsFrom", "(IIJ)J"⟩, prog_13_method_88_code, 11, (Option.some Jvm.ClassFile.FieldType.long), 3)
theorem q220_ok : mm_mt[220]? = some q220 := rfl
def q221 : mm_T := (11, ⟨"ShyBellModel", "odds", "(I)I"⟩, prog_13_method_89_code, 4, (Option.some Jvm.ClassFile.FieldType.int), 1)
theorem q221_ok : mm_mt[221]? = some q221 := rfl
def q222 : mm_T := (11, ⟨"ShyBellModel", "image", "()I"⟩, prog_13_method_90_code, 2, (Option.some Jvm.ClassFile.FieldType.int), 0)
theorem q222_ok : mm_mt[222]? = some q222 := rfl
def q223 : mm_T := (11, ⟨"ShyBellModel", "back", "()I"⟩, prog_13_method_91_code, 2, (Option.some Jvm.ClassFile.FieldType.int), 0)
theorem q223_ok : mm_mt[223]? = some q223 := rfl
def q224 : mm_T := (11, ⟨"ShyBellModel", "count", "(I)I"⟩, prog_13_method_92_code, 2, (Option.some Jvm.ClassFile.FieldType.int), 1)
theorem q224_ok : mm_mt[224]? = some q224 := rfl
def q225 : mm_T := (14, ⟨"java/lang/Integer", "bitCount", "(I)I"⟩, prog_16_method_49_code, 1, (Option.some Jvm.ClassFile.FieldType.int), 1)
theorem q225_ok : mm_mt[225]? = some q225 := rfl
def q226 : mm_T := (13, ⟨"java/lang/Math", "floorMod", "(II)I"⟩, prog_17_method_50_code, 3, (Option.some Jvm.ClassFile.FieldType.int), 2)
theorem q226_ok : mm_mt[226]? = some q226 := rfl
def q227 : mm_T := (13, ⟨"java/lang/Math", "max", "(II)I"⟩, prog_17_method_65_code, 2, (Option.some Jvm.ClassFile.FieldType.int), 2)
theorem q227_ok : mm_mt[227]? = some q227 := rfl
def q228 : mm_T := (13, ⟨"java/lang/Math", "max", "(JJ)J"⟩, prog_17_method_66_code, 4, (Option.some Jvm.ClassFile.FieldType.long), 2)
theorem q228_ok : mm_mt[228]? = some q228 := rfl
def q229 : mm_T := (13, ⟨"java/lang/Math", "min", "(II)I"⟩, prog_17_method_69_code, 2, (Option.some Jvm.ClassFile.FieldType.int), 2)
theorem q229_ok : mm_mt[229]? = some q229 := rfl
def q230 : mm_T := (13, ⟨"java/lang/Math", "min", "(JJ)J"⟩, prog_17_method_70_code, 4, (Option.some Jvm.ClassFile.FieldType.long), 2)
theorem q230_ok : mm_mt[230]? = some q230 := rfl
theorem fl_10_12 : mm_fl 10 12 = some (10, 0, 0) := by decide +kernel
theorem fl_10_21 : mm_fl 10 21 = some (10, 1, 0) := by decide +kernel
theorem fl_10_28 : mm_fl 10 28 = some (10, 2, 0) := by decide +kernel
theorem fl_10_32 : mm_fl 10 32 = some (10, 3, 0) := by decide +kernel
theorem fl_10_40 : mm_fl 10 40 = some (10, 4, 0) := by decide +kernel
theorem fl_10_49 : mm_fl 10 49 = some (10, 5, 0) := by decide +kernel
theorem fl_10_58 : mm_fl 10 58 = some (10, 6, 0) := by decide +kernel
theorem fl_10_62 : mm_fl 10 62 = some (10, 7, 0) := by decide +kernel
theorem fl_10_69 : mm_fl 10 69 = some (10, 9, 0) := by decide +kernel
theorem fl_10_73 : mm_fl 10 73 = some (10, 10, 0) := by decide +kernel
theorem fl_10_76 : mm_fl 10 76 = some (10, 11, 0) := by decide +kernel
theorem fl_10_82 : mm_fl 10 82 = some (10, 13, 0) := by decide +kernel
theorem fl_10_89 : mm_fl 10 89 = some (10, 14, 0) := by decide +kernel
theorem fl_10_98 : mm_fl 10 98 = some (10, 15, 0) := by decide +kernel
theorem fl_10_135 : mm_fl 10 135 = some (10, 12, 0) := by decide +kernel
theorem fl_10_142 : mm_fl 10 142 = some (10, 8, 0) := by decide +kernel
theorem fl_10_203 : mm_fl 10 203 = some (10, 16, 0) := by decide +kernel
theorem fl_0_9 : mm_fl 0 9 = some (0, 1, 0) := by decide +kernel
theorem fl_0_15 : mm_fl 0 15 = some (0, 3, 0) := by decide +kernel
theorem fl_0_18 : mm_fl 0 18 = some (0, 0, 0) := by decide +kernel
theorem fl_0_22 : mm_fl 0 22 = some (0, 2, 0) := by decide +kernel
theorem fl_1_9 : mm_fl 1 9 = some (1, 0, 0) := by decide +kernel
theorem fl_1_15 : mm_fl 1 15 = some (1, 1, 0) := by decide +kernel
theorem fl_2_9 : mm_fl 2 9 = some (2, 0, 0) := by decide +kernel
theorem fl_2_15 : mm_fl 2 15 = some (2, 1, 0) := by decide +kernel
theorem fl_2_19 : mm_fl 2 19 = some (2, 2, 0) := by decide +kernel
theorem fl_3_11 : mm_fl 3 11 = some (3, 0, 0) := by decide +kernel
theorem fl_3_18 : mm_fl 3 18 = some (3, 2, 0) := by decide +kernel
theorem fl_3_22 : mm_fl 3 22 = some (3, 1, 0) := by decide +kernel
theorem fl_4_9 : mm_fl 4 9 = some (4, 0, 0) := by decide +kernel
theorem fl_4_15 : mm_fl 4 15 = some (4, 1, 0) := by decide +kernel
theorem fl_4_19 : mm_fl 4 19 = some (4, 2, 0) := by decide +kernel
theorem fl_5_9 : mm_fl 5 9 = some (5, 0, 0) := by decide +kernel
theorem fl_5_15 : mm_fl 5 15 = some (5, 1, 0) := by decide +kernel
theorem fl_6_9 : mm_fl 6 9 = some (6, 1, 0) := by decide +kernel
theorem fl_6_15 : mm_fl 6 15 = some (6, 2, 0) := by decide +kernel
theorem fl_6_18 : mm_fl 6 18 = some (6, 0, 0) := by decide +kernel
theorem fl_6_22 : mm_fl 6 22 = some (6, 3, 0) := by decide +kernel
theorem fl_7_11 : mm_fl 7 11 = some (7, 0, 0) := by decide +kernel
theorem fl_7_18 : mm_fl 7 18 = some (7, 1, 0) := by decide +kernel
theorem fl_7_22 : mm_fl 7 22 = some (7, 2, 0) := by decide +kernel
theorem fl_7_25 : mm_fl 7 25 = some (7, 3, 0) := by decide +kernel
theorem fl_7_29 : mm_fl 7 29 = some (7, 4, 0) := by decide +kernel
theorem fl_7_32 : mm_fl 7 32 = some (7, 5, 0) := by decide +kernel
theorem fl_7_36 : mm_fl 7 36 = some (7, 6, 0) := by decide +kernel
theorem fl_7_39 : mm_fl 7 39 = some (7, 7, 0) := by decide +kernel
theorem fl_8_9 : mm_fl 8 9 = some (8, 0, 0) := by decide +kernel
theorem fl_8_15 : mm_fl 8 15 = some (8, 1, 0) := by decide +kernel
theorem fl_9_12 : mm_fl 9 12 = some (9, 1, 0) := by decide +kernel
theorem fl_9_18 : mm_fl 9 18 = some (9, 3, 0) := by decide +kernel
theorem fl_9_22 : mm_fl 9 22 = some (9, 4, 0) := by decide +kernel
theorem fl_9_26 : mm_fl 9 26 = some (9, 0, 0) := by decide +kernel
theorem fl_9_30 : mm_fl 9 30 = some (9, 2, 0) := by decide +kernel
theorem fl_9_33 : mm_fl 9 33 = some (9, 15, 0) := by decide +kernel
theorem fl_9_43 : mm_fl 9 43 = some (9, 5, 0) := by decide +kernel
theorem fl_9_59 : mm_fl 9 59 = some (9, 6, 0) := by decide +kernel
theorem fl_9_62 : mm_fl 9 62 = some (9, 7, 0) := by decide +kernel
theorem fl_9_65 : mm_fl 9 65 = some (9, 8, 0) := by decide +kernel
theorem fl_9_68 : mm_fl 9 68 = some (9, 9, 0) := by decide +kernel
theorem fl_9_78 : mm_fl 9 78 = some (9, 11, 0) := by decide +kernel
theorem fl_9_80 : mm_fl 9 80 = some (9, 10, 0) := by decide +kernel
theorem fl_9_99 : mm_fl 9 99 = some (9, 12, 0) := by decide +kernel
theorem fl_9_105 : mm_fl 9 105 = some (9, 13, 0) := by decide +kernel
theorem fl_9_112 : mm_fl 9 112 = some (9, 14, 0) := by decide +kernel
theorem fl_9_118 : mm_fl 9 118 = some (9, 16, 0) := by decide +kernel
theorem fl_11_9 : mm_fl 11 9 = some (11, 1, 0) := by decide +kernel
theorem fl_11_13 : mm_fl 11 13 = some (11, 6, 0) := by decide +kernel
theorem fl_11_16 : mm_fl 11 16 = some (11, 7, 0) := by decide +kernel
theorem fl_11_19 : mm_fl 11 19 = some (11, 8, 0) := by decide +kernel
theorem fl_11_22 : mm_fl 11 22 = some (11, 9, 0) := by decide +kernel
theorem fl_11_25 : mm_fl 11 25 = some (11, 10, 0) := by decide +kernel
theorem fl_11_28 : mm_fl 11 28 = some (11, 11, 0) := by decide +kernel
theorem fl_11_31 : mm_fl 11 31 = some (11, 12, 0) := by decide +kernel
theorem fl_11_34 : mm_fl 11 34 = some (11, 15, 0) := by decide +kernel
theorem fl_11_37 : mm_fl 11 37 = some (11, 16, 0) := by decide +kernel
theorem fl_11_40 : mm_fl 11 40 = some (11, 17, 0) := by decide +kernel
theorem fl_11_43 : mm_fl 11 43 = some (11, 18, 0) := by decide +kernel
theorem fl_11_46 : mm_fl 11 46 = some (11, 19, 0) := by decide +kernel
theorem fl_11_49 : mm_fl 11 49 = some (11, 23, 0) := by decide +kernel
theorem fl_11_52 : mm_fl 11 52 = some (11, 24, 0) := by decide +kernel
theorem fl_11_55 : mm_fl 11 55 = some (11, 25, 0) := by decide +kernel
theorem fl_11_58 : mm_fl 11 58 = some (11, 29, 0) := by decide +kernel
theorem fl_11_61 : mm_fl 11 61 = some (11, 30, 0) := by decide +kernel
theorem fl_11_64 : mm_fl 11 64 = some (11, 31, 0) := by decide +kernel
theorem fl_11_67 : mm_fl 11 67 = some (11, 37, 0) := by decide +kernel
theorem fl_11_71 : mm_fl 11 71 = some (11, 39, 0) := by decide +kernel
theorem fl_11_74 : mm_fl 11 74 = some (11, 40, 0) := by decide +kernel
theorem fl_11_77 : mm_fl 11 77 = some (11, 41, 0) := by decide +kernel
theorem fl_11_81 : mm_fl 11 81 = some (11, 43, 0) := by decide +kernel
theorem fl_11_84 : mm_fl 11 84 = some (11, 44, 0) := by decide +kernel
theorem fl_11_87 : mm_fl 11 87 = some (11, 46, 0) := by decide +kernel
theorem fl_11_90 : mm_fl 11 90 = some (11, 47, 0) := by decide +kernel
theorem fl_11_93 : mm_fl 11 93 = some (11, 49, 0) := by decide +kernel
theorem fl_11_96 : mm_fl 11 96 = some (11, 50, 0) := by decide +kernel
theorem fl_11_99 : mm_fl 11 99 = some (11, 51, 0) := by decide +kernel
theorem fl_11_102 : mm_fl 11 102 = some (11, 0, 0) := by decide +kernel
theorem fl_11_110 : mm_fl 11 110 = some (11, 2, 0) := by decide +kernel
theorem fl_11_113 : mm_fl 11 113 = some (11, 3, 0) := by decide +kernel
theorem fl_11_120 : mm_fl 11 120 = some (11, 4, 0) := by decide +kernel
theorem fl_11_123 : mm_fl 11 123 = some (11, 14, 0) := by decide +kernel
theorem fl_11_126 : mm_fl 11 126 = some (11, 5, 0) := by decide +kernel
theorem fl_11_242 : mm_fl 11 242 = some (11, 20, 0) := by decide +kernel
theorem fl_11_249 : mm_fl 11 249 = some (11, 22, 0) := by decide +kernel
theorem fl_11_253 : mm_fl 11 253 = some (11, 21, 0) := by decide +kernel
theorem fl_11_265 : mm_fl 11 265 = some (11, 26, 0) := by decide +kernel
theorem fl_11_268 : mm_fl 11 268 = some (11, 27, 0) := by decide +kernel
theorem fl_11_271 : mm_fl 11 271 = some (11, 28, 0) := by decide +kernel
theorem fl_11_274 : mm_fl 11 274 = some (11, 32, 0) := by decide +kernel
theorem fl_11_277 : mm_fl 11 277 = some (11, 42, 0) := by decide +kernel
theorem fl_11_280 : mm_fl 11 280 = some (11, 48, 0) := by decide +kernel
theorem fl_11_283 : mm_fl 11 283 = some (11, 54, 0) := by decide +kernel
theorem fl_11_289 : mm_fl 11 289 = some (11, 13, 0) := by decide +kernel
theorem fl_11_295 : mm_fl 11 295 = some (11, 35, 0) := by decide +kernel
theorem fl_11_298 : mm_fl 11 298 = some (11, 36, 0) := by decide +kernel
theorem fl_11_321 : mm_fl 11 321 = some (11, 38, 0) := by decide +kernel
theorem fl_11_330 : mm_fl 11 330 = some (11, 33, 0) := by decide +kernel
theorem fl_11_333 : mm_fl 11 333 = some (11, 34, 0) := by decide +kernel
theorem fl_11_353 : mm_fl 11 353 = some (11, 45, 0) := by decide +kernel
theorem fl_11_388 : mm_fl 11 388 = some (11, 52, 0) := by decide +kernel
theorem fl_11_391 : mm_fl 11 391 = some (11, 53, 0) := by decide +kernel
theorem fl_10_106 : mm_fl 10 106 = some (5, 1, 1) := by decide +kernel
theorem fl_10_139 : mm_fl 10 139 = some (7, 5, 1) := by decide +kernel
theorem fl_10_155 : mm_fl 10 155 = some (7, 0, 1) := by decide +kernel
theorem fl_10_159 : mm_fl 10 159 = some (7, 1, 1) := by decide +kernel
theorem fl_10_160 : mm_fl 10 160 = some (0, 0, 1) := by decide +kernel
theorem fl_10_170 : mm_fl 10 170 = some (9, 12, 1) := by decide +kernel
theorem fl_10_173 : mm_fl 10 173 = some (9, 13, 1) := by decide +kernel
theorem fl_10_179 : mm_fl 10 179 = some (7, 2, 1) := by decide +kernel
theorem fl_10_182 : mm_fl 10 182 = some (6, 1, 1) := by decide +kernel
theorem fl_10_186 : mm_fl 10 186 = some (6, 2, 1) := by decide +kernel
theorem fl_10_206 : mm_fl 10 206 = some (6, 3, 1) := by decide +kernel
theorem fl_10_217 : mm_fl 10 217 = some (6, 0, 1) := by decide +kernel
theorem fl_10_247 : mm_fl 10 247 = some (9, 1, 1) := by decide +kernel
theorem fl_10_254 : mm_fl 10 254 = some (9, 14, 1) := by decide +kernel
theorem fl_10_271 : mm_fl 10 271 = some (9, 7, 1) := by decide +kernel
theorem fl_10_282 : mm_fl 10 282 = some (9, 15, 1) := by decide +kernel
theorem fl_10_285 : mm_fl 10 285 = some (9, 16, 1) := by decide +kernel
theorem fl_10_294 : mm_fl 10 294 = some (2, 2, 1) := by decide +kernel
theorem fl_10_298 : mm_fl 10 298 = some (9, 4, 1) := by decide +kernel
theorem fl_10_329 : mm_fl 10 329 = some (7, 7, 1) := by decide +kernel
theorem fl_10_332 : mm_fl 10 332 = some (9, 11, 1) := by decide +kernel
theorem fl_10_336 : mm_fl 10 336 = some (7, 6, 1) := by decide +kernel
theorem fl_10_339 : mm_fl 10 339 = some (3, 2, 1) := by decide +kernel
theorem fl_1_33 : mm_fl 1 33 = some (4, 2, 1) := by decide +kernel
theorem fl_1_49 : mm_fl 1 49 = some (4, 1, 1) := by decide +kernel
theorem fl_4_22 : mm_fl 4 22 = some (5, 1, 1) := by decide +kernel
theorem fl_4_27 : mm_fl 4 27 = some (5, 0, 1) := by decide +kernel
theorem fl_6_32 : mm_fl 6 32 = some (7, 6, 1) := by decide +kernel
theorem fl_8_33 : mm_fl 8 33 = some (4, 2, 1) := by decide +kernel
theorem fl_8_45 : mm_fl 8 45 = some (7, 5, 1) := by decide +kernel
theorem fl_8_48 : mm_fl 8 48 = some (7, 6, 1) := by decide +kernel
theorem fl_8_51 : mm_fl 8 51 = some (4, 1, 1) := by decide +kernel
theorem fl_9_45 : mm_fl 9 45 = some (6, 0, 1) := by decide +kernel
theorem fl_9_83 : mm_fl 9 83 = some (7, 5, 1) := by decide +kernel
theorem fl_9_93 : mm_fl 9 93 = some (6, 1, 1) := by decide +kernel
theorem ml_10_3 : mm_ml 10 3 = some (0, 5) := by decide +kernel
theorem ml_10_18 : mm_ml 10 18 = some (33, 2) := by decide +kernel
theorem ml_10_37 : mm_ml 10 37 = some (72, 2) := by decide +kernel
theorem ml_10_46 : mm_ml 10 46 = some (2, 2) := by decide +kernel
theorem ml_10_55 : mm_ml 10 55 = some (10, 2) := by decide +kernel
theorem ml_10_81 : mm_ml 10 81 = some (29, 2) := by decide +kernel
theorem ml_10_95 : mm_ml 10 95 = some (77, 2) := by decide +kernel
theorem ml_10_102 : mm_ml 10 102 = some (43, 1) := by decide +kernel
theorem ml_10_110 : mm_ml 10 110 = some (44, 0) := by decide +kernel
theorem ml_10_113 : mm_ml 10 113 = some (73, 0) := by decide +kernel
theorem ml_10_117 : mm_ml 10 117 = some (11, 0) := by decide +kernel
theorem ml_10_118 : mm_ml 10 118 = some (92, 0) := by decide +kernel
theorem ml_10_121 : mm_ml 10 121 = some (93, 0) := by decide +kernel
theorem ml_10_124 : mm_ml 10 124 = some (52, 0) := by decide +kernel
theorem ml_10_128 : mm_ml 10 128 = some (46, 0) := by decide +kernel
theorem ml_10_131 : mm_ml 10 131 = some (30, 0) := by decide +kernel
theorem ml_10_134 : mm_ml 10 134 = some (25, 0) := by decide +kernel
theorem ml_10_145 : mm_ml 10 145 = some (6, 0) := by decide +kernel
theorem ml_10_148 : mm_ml 10 148 = some (129, 0) := by decide +kernel
theorem ml_10_163 : mm_ml 10 163 = some (78, 0) := by decide +kernel
theorem ml_10_167 : mm_ml 10 167 = some (82, 0) := by decide +kernel
theorem ml_10_176 : mm_ml 10 176 = some (131, 0) := by decide +kernel
theorem ml_10_189 : mm_ml 10 189 = some (128, 0) := by decide +kernel
theorem ml_10_193 : mm_ml 10 193 = some (59, 0) := by decide +kernel
theorem ml_10_196 : mm_ml 10 196 = some (98, 0) := by decide +kernel
theorem ml_10_210 : mm_ml 10 210 = some (132, 1) := by decide +kernel
theorem ml_10_213 : mm_ml 10 213 = some (31, 0) := by decide +kernel
theorem ml_10_220 : mm_ml 10 220 = some (65, 0) := by decide +kernel
theorem ml_10_224 : mm_ml 10 224 = some (58, 0) := by decide +kernel
theorem ml_10_227 : mm_ml 10 227 = some (67, 0) := by decide +kernel
theorem ml_10_230 : mm_ml 10 230 = some (66, 0) := by decide +kernel
theorem ml_10_233 : mm_ml 10 233 = some (48, 0) := by decide +kernel
theorem ml_10_236 : mm_ml 10 236 = some (49, 0) := by decide +kernel
theorem ml_10_240 : mm_ml 10 240 = some (32, 0) := by decide +kernel
theorem ml_10_244 : mm_ml 10 244 = some (83, 0) := by decide +kernel
theorem ml_10_250 : mm_ml 10 250 = some (84, 0) := by decide +kernel
theorem ml_10_257 : mm_ml 10 257 = some (227, 1) := by decide +kernel
theorem ml_10_262 : mm_ml 10 262 = some (69, 0) := by decide +kernel
theorem ml_10_265 : mm_ml 10 265 = some (225, 1) := by decide +kernel
theorem ml_10_270 : mm_ml 10 270 = some (79, 0) := by decide +kernel
theorem ml_10_274 : mm_ml 10 274 = some (86, 0) := by decide +kernel
theorem ml_10_278 : mm_ml 10 278 = some (85, 0) := by decide +kernel
theorem ml_10_288 : mm_ml 10 288 = some (130, 0) := by decide +kernel
theorem ml_10_291 : mm_ml 10 291 = some (80, 0) := by decide +kernel
theorem ml_10_295 : mm_ml 10 295 = some (26, 0) := by decide +kernel
theorem ml_10_302 : mm_ml 10 302 = some (28, 0) := by decide +kernel
theorem ml_10_306 : mm_ml 10 306 = some (27, 0) := by decide +kernel
theorem ml_10_311 : mm_ml 10 311 = some (118, 0) := by decide +kernel
theorem ml_10_315 : mm_ml 10 315 = some (119, 0) := by decide +kernel
theorem ml_10_318 : mm_ml 10 318 = some (81, 0) := by decide +kernel
theorem ml_10_320 : mm_ml 10 320 = some (70, 0) := by decide +kernel
theorem ml_10_325 : mm_ml 10 325 = some (71, 0) := by decide +kernel
theorem ml_10_334 : mm_ml 10 334 = some (47, 0) := by decide +kernel
theorem ml_0_3 : mm_ml 0 3 = some (0, 5) := by decide +kernel
theorem ml_0_25 : mm_ml 0 25 = some (4, 0) := by decide +kernel
theorem ml_0_28 : mm_ml 0 28 = some (5, 0) := by decide +kernel
theorem ml_0_32 : mm_ml 0 32 = some (9, 1) := by decide +kernel
theorem ml_0_40 : mm_ml 0 40 = some (230, 1) := by decide +kernel
theorem ml_0_46 : mm_ml 0 46 = some (228, 1) := by decide +kernel
theorem ml_1_3 : mm_ml 1 3 = some (0, 5) := by decide +kernel
theorem ml_1_19 : mm_ml 1 19 = some (34, 0) := by decide +kernel
theorem ml_1_24 : mm_ml 1 24 = some (4, 0) := by decide +kernel
theorem ml_1_29 : mm_ml 1 29 = some (12, 0) := by decide +kernel
theorem ml_1_37 : mm_ml 1 37 = some (5, 0) := by decide +kernel
theorem ml_1_41 : mm_ml 1 41 = some (37, 0) := by decide +kernel
theorem ml_1_45 : mm_ml 1 45 = some (35, 0) := by decide +kernel
theorem ml_1_52 : mm_ml 1 52 = some (38, 0) := by decide +kernel
theorem ml_1_55 : mm_ml 1 55 = some (13, 0) := by decide +kernel
theorem ml_1_58 : mm_ml 1 58 = some (21, 0) := by decide +kernel
theorem ml_1_61 : mm_ml 1 61 = some (20, 1) := by decide +kernel
theorem ml_1_65 : mm_ml 1 65 = some (19, 0) := by decide +kernel
theorem ml_1_68 : mm_ml 1 68 = some (16, 0) := by decide +kernel
theorem ml_1_71 : mm_ml 1 71 = some (14, 0) := by decide +kernel
theorem ml_1_74 : mm_ml 1 74 = some (15, 0) := by decide +kernel
theorem ml_1_77 : mm_ml 1 77 = some (17, 0) := by decide +kernel
theorem ml_1_80 : mm_ml 1 80 = some (39, 0) := by decide +kernel
theorem ml_1_83 : mm_ml 1 83 = some (36, 0) := by decide +kernel
theorem ml_1_86 : mm_ml 1 86 = some (18, 0) := by decide +kernel
theorem ml_1_89 : mm_ml 1 89 = some (22, 0) := by decide +kernel
theorem ml_1_92 : mm_ml 1 92 = some (23, 0) := by decide +kernel
theorem ml_1_95 : mm_ml 1 95 = some (3, 1) := by decide +kernel
theorem ml_1_98 : mm_ml 1 98 = some (41, 0) := by decide +kernel
theorem ml_2_3 : mm_ml 2 3 = some (0, 5) := by decide +kernel
theorem ml_2_23 : mm_ml 2 23 = some (227, 1) := by decide +kernel
theorem ml_3_3 : mm_ml 3 3 = some (0, 5) := by decide +kernel
theorem ml_3_25 : mm_ml 3 25 = some (47, 0) := by decide +kernel
theorem ml_3_29 : mm_ml 3 29 = some (229, 1) := by decide +kernel
theorem ml_4_3 : mm_ml 4 3 = some (0, 5) := by decide +kernel
theorem ml_4_31 : mm_ml 4 31 = some (35, 0) := by decide +kernel
theorem ml_4_35 : mm_ml 4 35 = some (39, 0) := by decide +kernel
theorem ml_4_39 : mm_ml 4 39 = some (40, 0) := by decide +kernel
theorem ml_5_3 : mm_ml 5 3 = some (0, 5) := by decide +kernel
theorem ml_6_3 : mm_ml 6 3 = some (0, 5) := by decide +kernel
theorem ml_6_37 : mm_ml 6 37 = some (70, 0) := by decide +kernel
theorem ml_6_41 : mm_ml 6 41 = some (71, 0) := by decide +kernel
theorem ml_7_3 : mm_ml 7 3 = some (0, 5) := by decide +kernel
theorem ml_7_43 : mm_ml 7 43 = some (51, 0) := by decide +kernel
theorem ml_7_46 : mm_ml 7 46 = some (54, 0) := by decide +kernel
theorem ml_7_50 : mm_ml 7 50 = some (53, 1) := by decide +kernel
theorem ml_7_54 : mm_ml 7 54 = some (55, 0) := by decide +kernel
theorem ml_7_57 : mm_ml 7 57 = some (56, 0) := by decide +kernel
theorem ml_7_63 : mm_ml 7 63 = some (57, 1) := by decide +kernel
theorem ml_7_73 : mm_ml 7 73 = some (60, 1) := by decide +kernel
theorem ml_7_77 : mm_ml 7 77 = some (226, 1) := by decide +kernel
theorem ml_7_83 : mm_ml 7 83 = some (61, 0) := by decide +kernel
theorem ml_7_87 : mm_ml 7 87 = some (63, 0) := by decide +kernel
theorem ml_7_91 : mm_ml 7 91 = some (8, 0) := by decide +kernel
theorem ml_7_95 : mm_ml 7 95 = some (64, 0) := by decide +kernel
theorem ml_7_98 : mm_ml 7 98 = some (59, 0) := by decide +kernel
theorem ml_7_101 : mm_ml 7 101 = some (7, 0) := by decide +kernel
theorem ml_7_105 : mm_ml 7 105 = some (62, 0) := by decide +kernel
theorem ml_8_3 : mm_ml 8 3 = some (0, 5) := by decide +kernel
theorem ml_8_19 : mm_ml 8 19 = some (34, 0) := by decide +kernel
theorem ml_8_24 : mm_ml 8 24 = some (51, 0) := by decide +kernel
theorem ml_8_29 : mm_ml 8 29 = some (74, 0) := by decide +kernel
theorem ml_8_37 : mm_ml 8 37 = some (37, 0) := by decide +kernel
theorem ml_8_41 : mm_ml 8 41 = some (35, 0) := by decide +kernel
theorem ml_8_54 : mm_ml 8 54 = some (54, 0) := by decide +kernel
theorem ml_8_58 : mm_ml 8 58 = some (56, 0) := by decide +kernel
theorem ml_8_61 : mm_ml 8 61 = some (55, 0) := by decide +kernel
theorem ml_8_64 : mm_ml 8 64 = some (39, 0) := by decide +kernel
theorem ml_8_67 : mm_ml 8 67 = some (36, 0) := by decide +kernel
theorem ml_8_80 : mm_ml 8 80 = some (75, 0) := by decide +kernel
theorem ml_8_84 : mm_ml 8 84 = some (76, 1) := by decide +kernel
theorem ml_8_88 : mm_ml 8 88 = some (41, 0) := by decide +kernel
theorem ml_9_3 : mm_ml 9 3 = some (0, 5) := by decide +kernel
theorem ml_9_37 : mm_ml 9 37 = some (68, 0) := by decide +kernel
theorem ml_9_48 : mm_ml 9 48 = some (65, 0) := by decide +kernel
theorem ml_9_52 : mm_ml 9 52 = some (79, 0) := by decide +kernel
theorem ml_9_55 : mm_ml 9 55 = some (47, 0) := by decide +kernel
theorem ml_9_71 : mm_ml 9 71 = some (58, 0) := by decide +kernel
theorem ml_9_74 : mm_ml 9 74 = some (67, 0) := by decide +kernel
theorem ml_9_86 : mm_ml 9 86 = some (64, 0) := by decide +kernel
theorem ml_9_90 : mm_ml 9 90 = some (63, 0) := by decide +kernel
theorem ml_9_96 : mm_ml 9 96 = some (81, 0) := by decide +kernel
theorem ml_9_102 : mm_ml 9 102 = some (66, 0) := by decide +kernel
theorem ml_9_108 : mm_ml 9 108 = some (49, 0) := by decide +kernel
theorem ml_9_115 : mm_ml 9 115 = some (82, 0) := by decide +kernel
theorem ml_12_7 : mm_ml 12 7 = some (94, 0) := by decide +kernel
theorem ml_12_15 : mm_ml 12 15 = some (87, 2) := by decide +kernel
theorem ml_12_18 : mm_ml 12 18 = some (135, 2) := by decide +kernel
theorem ml_12_19 : mm_ml 12 19 = some (88, 0) := by decide +kernel
theorem ml_12_23 : mm_ml 12 23 = some (138, 0) := by decide +kernel
theorem ml_12_24 : mm_ml 12 24 = some (89, 0) := by decide +kernel
theorem ml_12_28 : mm_ml 12 28 = some (139, 0) := by decide +kernel
theorem ml_12_29 : mm_ml 12 29 = some (90, 0) := by decide +kernel
theorem ml_12_33 : mm_ml 12 33 = some (174, 0) := by decide +kernel
theorem ml_12_34 : mm_ml 12 34 = some (91, 0) := by decide +kernel
theorem ml_12_37 : mm_ml 12 37 = some (176, 0) := by decide +kernel
theorem ml_12_38 : mm_ml 12 38 = some (1, 6) := by decide +kernel
theorem ml_12_43 : mm_ml 12 43 = some (185, 0) := by decide +kernel
theorem ml_12_44 : mm_ml 12 44 = some (136, 0) := by decide +kernel
theorem ml_12_48 : mm_ml 12 48 = some (95, 0) := by decide +kernel
theorem ml_12_51 : mm_ml 12 51 = some (186, 0) := by decide +kernel
theorem ml_12_52 : mm_ml 12 52 = some (96, 0) := by decide +kernel
theorem ml_12_55 : mm_ml 12 55 = some (187, 0) := by decide +kernel
theorem ml_12_56 : mm_ml 12 56 = some (97, 0) := by decide +kernel
theorem ml_12_60 : mm_ml 12 60 = some (188, 0) := by decide +kernel
theorem ml_12_61 : mm_ml 12 61 = some (99, 0) := by decide +kernel
theorem ml_12_64 : mm_ml 12 64 = some (189, 0) := by decide +kernel
theorem ml_12_67 : mm_ml 12 67 = some (100, 0) := by decide +kernel
theorem ml_12_71 : mm_ml 12 71 = some (190, 0) := by decide +kernel
theorem ml_12_72 : mm_ml 12 72 = some (101, 0) := by decide +kernel
theorem ml_12_75 : mm_ml 12 75 = some (193, 0) := by decide +kernel
theorem ml_12_76 : mm_ml 12 76 = some (102, 0) := by decide +kernel
theorem ml_12_79 : mm_ml 12 79 = some (194, 0) := by decide +kernel
theorem ml_12_80 : mm_ml 12 80 = some (103, 0) := by decide +kernel
theorem ml_12_84 : mm_ml 12 84 = some (198, 0) := by decide +kernel
theorem ml_12_85 : mm_ml 12 85 = some (104, 0) := by decide +kernel
theorem ml_12_88 : mm_ml 12 88 = some (199, 0) := by decide +kernel
theorem ml_12_89 : mm_ml 12 89 = some (105, 0) := by decide +kernel
theorem ml_12_92 : mm_ml 12 92 = some (201, 0) := by decide +kernel
theorem ml_12_93 : mm_ml 12 93 = some (106, 0) := by decide +kernel
theorem ml_12_96 : mm_ml 12 96 = some (202, 0) := by decide +kernel
theorem ml_12_97 : mm_ml 12 97 = some (107, 0) := by decide +kernel
theorem ml_12_100 : mm_ml 12 100 = some (203, 0) := by decide +kernel
theorem ml_12_101 : mm_ml 12 101 = some (108, 0) := by decide +kernel
theorem ml_12_104 : mm_ml 12 104 = some (204, 0) := by decide +kernel
theorem ml_12_105 : mm_ml 12 105 = some (109, 0) := by decide +kernel
theorem ml_12_108 : mm_ml 12 108 = some (206, 0) := by decide +kernel
theorem ml_12_109 : mm_ml 12 109 = some (110, 0) := by decide +kernel
theorem ml_12_112 : mm_ml 12 112 = some (207, 0) := by decide +kernel
theorem ml_12_113 : mm_ml 12 113 = some (111, 0) := by decide +kernel
theorem ml_12_117 : mm_ml 12 117 = some (208, 0) := by decide +kernel
theorem ml_12_118 : mm_ml 12 118 = some (112, 0) := by decide +kernel
theorem ml_12_121 : mm_ml 12 121 = some (209, 0) := by decide +kernel
theorem ml_12_122 : mm_ml 12 122 = some (113, 0) := by decide +kernel
theorem ml_12_125 : mm_ml 12 125 = some (210, 0) := by decide +kernel
theorem ml_12_126 : mm_ml 12 126 = some (114, 0) := by decide +kernel
theorem ml_12_130 : mm_ml 12 130 = some (216, 0) := by decide +kernel
theorem ml_12_131 : mm_ml 12 131 = some (115, 0) := by decide +kernel
theorem ml_12_134 : mm_ml 12 134 = some (218, 0) := by decide +kernel
theorem ml_12_135 : mm_ml 12 135 = some (116, 0) := by decide +kernel
theorem ml_12_138 : mm_ml 12 138 = some (219, 0) := by decide +kernel
theorem ml_12_139 : mm_ml 12 139 = some (117, 0) := by decide +kernel
theorem ml_12_142 : mm_ml 12 142 = some (221, 0) := by decide +kernel
theorem ml_12_143 : mm_ml 12 143 = some (120, 0) := by decide +kernel
theorem ml_12_146 : mm_ml 12 146 = some (211, 0) := by decide +kernel
theorem ml_12_147 : mm_ml 12 147 = some (121, 0) := by decide +kernel
theorem ml_12_150 : mm_ml 12 150 = some (212, 0) := by decide +kernel
theorem ml_12_151 : mm_ml 12 151 = some (122, 0) := by decide +kernel
theorem ml_12_154 : mm_ml 12 154 = some (213, 0) := by decide +kernel
theorem ml_12_155 : mm_ml 12 155 = some (123, 0) := by decide +kernel
theorem ml_12_158 : mm_ml 12 158 = some (214, 0) := by decide +kernel
theorem ml_12_159 : mm_ml 12 159 = some (124, 0) := by decide +kernel
theorem ml_12_162 : mm_ml 12 162 = some (215, 0) := by decide +kernel
theorem ml_12_163 : mm_ml 12 163 = some (125, 0) := by decide +kernel
theorem ml_12_166 : mm_ml 12 166 = some (222, 0) := by decide +kernel
theorem ml_12_167 : mm_ml 12 167 = some (126, 0) := by decide +kernel
theorem ml_12_170 : mm_ml 12 170 = some (223, 0) := by decide +kernel
theorem ml_12_171 : mm_ml 12 171 = some (127, 0) := by decide +kernel
theorem ml_12_174 : mm_ml 12 174 = some (224, 0) := by decide +kernel
theorem ml_11_3 : mm_ml 11 3 = some (0, 5) := by decide +kernel
theorem ml_11_106 : mm_ml 11 106 = some (137, 1) := by decide +kernel
theorem ml_11_116 : mm_ml 11 116 = some (140, 0) := by decide +kernel
theorem ml_11_129 : mm_ml 11 129 = some (142, 0) := by decide +kernel
theorem ml_11_132 : mm_ml 11 132 = some (141, 0) := by decide +kernel
theorem ml_11_135 : mm_ml 11 135 = some (143, 1) := by decide +kernel
theorem ml_11_139 : mm_ml 11 139 = some (148, 0) := by decide +kernel
theorem ml_11_142 : mm_ml 11 142 = some (144, 0) := by decide +kernel
theorem ml_11_146 : mm_ml 11 146 = some (145, 1) := by decide +kernel
theorem ml_11_150 : mm_ml 11 150 = some (146, 0) := by decide +kernel
theorem ml_11_153 : mm_ml 11 153 = some (151, 0) := by decide +kernel
theorem ml_11_156 : mm_ml 11 156 = some (147, 0) := by decide +kernel
theorem ml_11_160 : mm_ml 11 160 = some (149, 0) := by decide +kernel
theorem ml_11_163 : mm_ml 11 163 = some (150, 0) := by decide +kernel
theorem ml_11_166 : mm_ml 11 166 = some (152, 1) := by decide +kernel
theorem ml_11_169 : mm_ml 11 169 = some (154, 0) := by decide +kernel
theorem ml_11_172 : mm_ml 11 172 = some (157, 0) := by decide +kernel
theorem ml_11_175 : mm_ml 11 175 = some (153, 0) := by decide +kernel
theorem ml_11_178 : mm_ml 11 178 = some (155, 0) := by decide +kernel
theorem ml_11_181 : mm_ml 11 181 = some (156, 0) := by decide +kernel
theorem ml_11_184 : mm_ml 11 184 = some (159, 0) := by decide +kernel
theorem ml_11_187 : mm_ml 11 187 = some (158, 0) := by decide +kernel
theorem ml_11_190 : mm_ml 11 190 = some (160, 0) := by decide +kernel
theorem ml_11_197 : mm_ml 11 197 = some (230, 1) := by decide +kernel
theorem ml_11_203 : mm_ml 11 203 = some (228, 1) := by decide +kernel
theorem ml_11_206 : mm_ml 11 206 = some (162, 1) := by decide +kernel
theorem ml_11_210 : mm_ml 11 210 = some (163, 1) := by decide +kernel
theorem ml_11_214 : mm_ml 11 214 = some (164, 0) := by decide +kernel
theorem ml_11_218 : mm_ml 11 218 = some (133, 1) := by decide +kernel
theorem ml_11_222 : mm_ml 11 222 = some (170, 1) := by decide +kernel
theorem ml_11_226 : mm_ml 11 226 = some (167, 1) := by decide +kernel
theorem ml_11_229 : mm_ml 11 229 = some (134, 1) := by decide +kernel
theorem ml_11_233 : mm_ml 11 233 = some (168, 1) := by decide +kernel
theorem ml_11_236 : mm_ml 11 236 = some (169, 1) := by decide +kernel
theorem ml_11_239 : mm_ml 11 239 = some (166, 0) := by decide +kernel
theorem ml_11_245 : mm_ml 11 245 = some (171, 0) := by decide +kernel
theorem ml_11_256 : mm_ml 11 256 = some (172, 0) := by decide +kernel
theorem ml_11_259 : mm_ml 11 259 = some (173, 0) := by decide +kernel
theorem ml_11_262 : mm_ml 11 262 = some (161, 0) := by decide +kernel
theorem ml_11_286 : mm_ml 11 286 = some (175, 0) := by decide +kernel
theorem ml_11_292 : mm_ml 11 292 = some (226, 1) := by decide +kernel
theorem ml_11_301 : mm_ml 11 301 = some (179, 1) := by decide +kernel
theorem ml_11_305 : mm_ml 11 305 = some (165, 0) := by decide +kernel
theorem ml_11_308 : mm_ml 11 308 = some (180, 0) := by decide +kernel
theorem ml_11_311 : mm_ml 11 311 = some (181, 0) := by decide +kernel
theorem ml_11_314 : mm_ml 11 314 = some (182, 0) := by decide +kernel
theorem ml_11_317 : mm_ml 11 317 = some (183, 0) := by decide +kernel
theorem ml_11_324 : mm_ml 11 324 = some (177, 0) := by decide +kernel
theorem ml_11_327 : mm_ml 11 327 = some (178, 0) := by decide +kernel
theorem ml_11_337 : mm_ml 11 337 = some (192, 0) := by decide +kernel
theorem ml_11_340 : mm_ml 11 340 = some (191, 0) := by decide +kernel
theorem ml_11_349 : mm_ml 11 349 = some (184, 0) := by decide +kernel
theorem ml_11_356 : mm_ml 11 356 = some (195, 0) := by decide +kernel
theorem ml_11_359 : mm_ml 11 359 = some (197, 0) := by decide +kernel
theorem ml_11_362 : mm_ml 11 362 = some (196, 0) := by decide +kernel
theorem ml_11_365 : mm_ml 11 365 = some (200, 0) := by decide +kernel
theorem ml_11_368 : mm_ml 11 368 = some (227, 1) := by decide +kernel
theorem ml_11_370 : mm_ml 11 370 = some (225, 1) := by decide +kernel
theorem ml_11_375 : mm_ml 11 375 = some (205, 0) := by decide +kernel
theorem ml_11_379 : mm_ml 11 379 = some (217, 0) := by decide +kernel
theorem ml_11_382 : mm_ml 11 382 = some (220, 0) := by decide +kernel
theorem ml_10_11 : mm_ml 10 11 = some (42, 4) := by decide +kernel
theorem ml_10_27 : mm_ml 10 27 = some (50, 4) := by decide +kernel
theorem ml_10_68 : mm_ml 10 68 = some (45, 4) := by decide +kernel
theorem ml_10_88 : mm_ml 10 88 = some (24, 4) := by decide +kernel
theorem ml_3_17 : mm_ml 3 17 = some (45, 4) := by decide +kernel
theorem ml_9_11 : mm_ml 9 11 = some (45, 4) := by decide +kernel
theorem gs_10_200 : mm_gs 10 200 = some (0, 0) := by decide +kernel
theorem gs_7_60 : mm_gs 7 60 = some (0, 1) := by decide +kernel
theorem gs_7_67 : mm_gs 7 67 = some (2, 1) := by decide +kernel
theorem gs_7_70 : mm_gs 7 70 = some (1, 1) := by decide +kernel
theorem gs_8_70 : mm_gs 8 70 = some (0, 1) := by decide +kernel
theorem gs_8_74 : mm_gs 8 74 = some (1, 1) := by decide +kernel
theorem gs_8_77 : mm_gs 8 77 = some (2, 1) := by decide +kernel
theorem kc_10_277 : mm_kc 10 277 = some (-1000000) := by decide +kernel
theorem kc_11_378 : mm_kc 11 378 = some (-1000000) := by decide +kernel
theorem kc_14_265 : mm_kc 14 265 = some (1431655765) := by decide +kernel
theorem kc_14_266 : mm_kc 14 266 = some (858993459) := by decide +kernel
theorem kc_14_267 : mm_kc 14 267 = some (252645135) := by decide +kernel
theorem kl_10_309 : mm_kl 10 309 = some (1000000000) := by decide +kernel
theorem kl_10_323 : mm_kl 10 323 = some (100) := by decide +kernel
theorem kl_0_36 : mm_kl 0 36 = some (-1000000) := by decide +kernel
theorem kl_0_38 : mm_kl 0 38 = some (1000000) := by decide +kernel
theorem kl_6_26 : mm_kl 6 26 = some (6364136223846793005) := by decide +kernel
theorem kl_6_28 : mm_kl 6 28 = some (1442695040888963407) := by decide +kernel
theorem kl_6_30 : mm_kl 6 30 = some (100) := by decide +kernel
theorem kl_12_65 : mm_kl 12 65 = some (4294967295) := by decide +kernel
theorem kl_11_193 : mm_kl 11 193 = some (-1000000) := by decide +kernel
theorem kl_11_195 : mm_kl 11 195 = some (1000000) := by decide +kernel
theorem kl_11_343 : mm_kl 11 343 = some (6364136223846793005) := by decide +kernel
theorem kl_11_345 : mm_kl 11 345 = some (1442695040888963407) := by decide +kernel
theorem kl_11_347 : mm_kl 11 347 = some (100) := by decide +kernel
theorem kl_11_386 : mm_kl 11 386 = some (1000000000) := by decide +kernel
theorem ck_10_9 : mm_clk 10 9 = some 5 := by decide +kernel
theorem ck_10_16 : mm_clk 10 16 = some 4 := by decide +kernel
theorem ck_10_25 : mm_clk 10 25 = some 7 := by decide +kernel
theorem ck_10_35 : mm_clk 10 35 = some 8 := by decide +kernel
theorem ck_10_44 : mm_clk 10 44 = some 0 := by decide +kernel
theorem ck_10_53 : mm_clk 10 53 = some 1 := by decide +kernel
theorem ck_10_66 : mm_clk 10 66 = some 6 := by decide +kernel
theorem ck_10_79 : mm_clk 10 79 = some 3 := by decide +kernel
theorem ck_10_86 : mm_clk 10 86 = some 2 := by decide +kernel
theorem ck_10_93 : mm_clk 10 93 = some 9 := by decide +kernel
theorem ck_3_9 : mm_clk 3 9 = some 6 := by decide +kernel
theorem ck_7_16 : mm_clk 7 16 = some 0 := by decide +kernel
theorem ck_9_9 : mm_clk 9 9 = some 6 := by decide +kernel
theorem ck_12_8 : mm_clk 12 8 = some 10 := by decide +kernel
theorem ck_12_16 : mm_clk 12 16 = some 11 := by decide +kernel
theorem an_10_44 : mm_an 10 44 = some 0 := by decide +kernel
theorem an_3_9 : mm_an 3 9 = some 6 := by decide +kernel
theorem an_7_16 : mm_an 7 16 = some 0 := by decide +kernel
