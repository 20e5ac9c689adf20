abbrev jM : Type := MethodName × Nat × ByteArray × Nat × Option FieldType × List (Nat × Nat × Nat × Nat) × List (Nat × Instr × Nat)
def jm0 : jM := (⟨"LinkedCoresLaw", "put", "(LLinkedCores;I[J)I"⟩, 18, method_3_code, 4, (some .int), [(0, 9, 12, 13), (0, 9, 15, 15)], jP0)
def jm1 : jM := (⟨"LinkedCoresLaw", "end", "(LLinkedCores;I)I"⟩, 18, method_4_code, 3, (some .int), [(0, 5, 8, 13)], jP1)
def jm2 : jM := (⟨"LinkedCoresLaw", "fault", "(LLinkedCores;I[J)I"⟩, 18, method_5_code, 4, (some .int), [(0, 9, 12, 13)], jP2)
def jm3 : jM := (⟨"LinkedCoresLaw", "processor", "(LLinkedCores;II[J)I"⟩, 18, method_6_code, 5, (some .int), [(0, 10, 13, 28), (0, 10, 17, 30), (0, 10, 21, 13)], jP3)
def jm4 : jM := (⟨"LinkedCoresLaw", "code", "(LLinkedCores;II[J)I"⟩, 18, method_7_code, 5, (some .int), [(0, 10, 13, 28), (0, 10, 17, 30), (0, 10, 21, 35)], jP4)
def jm5 : jM := (⟨"LinkedCoresLaw", "instruction", "(LLinkedCores;III[J)I"⟩, 18, method_8_code, 6, (some .int), [(0, 12, 15, 28), (0, 12, 19, 30), (0, 12, 23, 35), (0, 12, 27, 13)], jP5)
def jm6 : jM := (⟨"LinkedCoresLaw", "link", "(LLinkedCores;II[J)I"⟩, 18, method_9_code, 5, (some .int), [(0, 10, 13, 28), (0, 10, 17, 35), (0, 10, 21, 13)], jP6)
def jm7 : jM := (⟨"LinkedCoresLaw", "begin", "(LLinkedCores;)I"⟩, 18, method_10_code, 2, (some .int), [(0, 4, 7, 28)], jP7)
def jm8 : jM := (⟨"LinkedCoresLaw", "input", "(LLinkedCores;I[J)I"⟩, 18, method_11_code, 4, (some .int), [(0, 9, 12, 28), (0, 9, 15, 15)], jP8)
def jm9 : jM := (⟨"LinkedCoresLaw", "run", "(LLinkedCores;II[J)I"⟩, 18, method_12_code, 5, (some .int), [(0, 10, 13, 28), (0, 10, 17, 30), (0, 10, 21, 13)], jP9)
def jm10 : jM := (⟨"LinkedCoresLaw", "beat", "(LLinkedCores;I[J)I"⟩, 18, method_13_code, 4, (some .int), [(0, 9, 12, 28), (0, 9, 15, 13)], jP10)
def jm11 : jM := (⟨"LinkedCoresLaw", "rounds", "(LLinkedCores;I[J)I"⟩, 18, method_14_code, 4, (some .int), [(0, 9, 12, 28), (0, 9, 15, 13)], jP11)
def jm12 : jM := (⟨"LinkedCoresLaw", "outcome", "(LLinkedCores;[J)I"⟩, 18, method_15_code, 3, (some .int), [(0, 8, 11, 28)], jP12)
def jm13 : jM := (⟨"LinkedCoresLaw", "core", "(LLinkedCores;II[J)I"⟩, 18, method_16_code, 5, (some .int), [(0, 10, 13, 28), (0, 10, 17, 30), (0, 10, 21, 13)], jP13)
def jm14 : jM := (⟨"LinkedCoresLaw", "ready", "(LLinkedCores;II[J)I"⟩, 18, method_17_code, 5, (some .int), [(0, 10, 13, 28), (0, 10, 17, 30), (0, 10, 21, 35)], jP14)
def jm15 : jM := (⟨"LinkedCoresLaw", "word", "(LLinkedCores;II[J)I"⟩, 18, method_18_code, 5, (some .int), [(0, 10, 13, 28), (0, 10, 17, 30), (0, 10, 21, 35)], jP15)
def jm16 : jM := (⟨"LinkedCoresLaw", "output", "(LLinkedCores;I[J)I"⟩, 18, method_19_code, 4, (some .int), [(0, 9, 12, 28), (0, 9, 15, 35)], jP16)
def jm17 : jM := (⟨"LinkedCoresLaw", "about", "(LLinkedCores;I[J)I"⟩, 18, method_20_code, 4, (some .int), [(0, 9, 12, 28), (0, 9, 15, 13)], jP17)
def jm18 : jM := (⟨"LinkedCoresLaw", "law", "([I)Z"⟩, 18, code, 7, some .boolean, [], jP18)
def jm19 : jM := (⟨"LinkedCores", "<init>", "()V"⟩, 0, prog_1_method_1_code, 1, none, [], jP19)
def jm20 : jM := (⟨"LinkedCores", "put", "(I)I"⟩, 0, prog_1_method_2_code, 5, (some .int), [], jP20)
def jm21 : jM := (⟨"LinkedCores", "end", "(I)V"⟩, 0, prog_1_method_3_code, 2, none, [], jP21)
def jm22 : jM := (⟨"LinkedCores", "compile", "()I"⟩, 0, prog_1_method_4_code, 4, (some .int), [], jP22)
def jm23 : jM := (⟨"LinkedCores", "fault", "(I)I"⟩, 0, prog_1_method_5_code, 2, (some .int), [], jP23)
def jm24 : jM := (⟨"LinkedCores", "processor", "(II)I"⟩, 0, prog_1_method_6_code, 4, (some .int), [], jP24)
def jm25 : jM := (⟨"LinkedCores", "code", "(II)I"⟩, 0, prog_1_method_7_code, 4, (some .int), [], jP25)
def jm26 : jM := (⟨"LinkedCores", "instruction", "(III)I"⟩, 0, prog_1_method_8_code, 5, (some .int), [], jP26)
def jm27 : jM := (⟨"LinkedCores", "link", "(II)I"⟩, 0, prog_1_method_9_code, 4, (some .int), [], jP27)
def jm28 : jM := (⟨"LinkedCores", "begin", "()V"⟩, 0, prog_1_method_10_code, 1, none, [], jP28)
def jm29 : jM := (⟨"LinkedCores", "input", "(I)I"⟩, 0, prog_1_method_11_code, 3, (some .int), [], jP29)
def jm30 : jM := (⟨"LinkedCores", "run", "(II)I"⟩, 0, prog_1_method_12_code, 6, (some .int), [], jP30)
def jm31 : jM := (⟨"LinkedCores", "beat", "(I)I"⟩, 0, prog_1_method_13_code, 5, (some .int), [], jP31)
def jm32 : jM := (⟨"LinkedCores", "rounds", "(I)I"⟩, 0, prog_1_method_14_code, 5, (some .int), [], jP32)
def jm33 : jM := (⟨"LinkedCores", "outcome", "()I"⟩, 0, prog_1_method_15_code, 1, (some .int), [], jP33)
def jm34 : jM := (⟨"LinkedCores", "core", "(II)I"⟩, 0, prog_1_method_16_code, 4, (some .int), [], jP34)
def jm35 : jM := (⟨"LinkedCores", "ready", "(II)I"⟩, 0, prog_1_method_17_code, 4, (some .int), [], jP35)
def jm36 : jM := (⟨"LinkedCores", "word", "(II)I"⟩, 0, prog_1_method_18_code, 4, (some .int), [], jP36)
def jm37 : jM := (⟨"LinkedCores", "output", "(I)I"⟩, 0, prog_1_method_19_code, 3, (some .int), [], jP37)
def jm38 : jM := (⟨"LinkedCores", "about", "(I)I"⟩, 0, prog_1_method_20_code, 3, (some .int), [], jP38)
def jm39 : jM := (⟨"LinkedCores", "loaded", "()LLinkedCores$Machine;"⟩, 0, prog_1_method_21_code, 2, (some (.object "LinkedCores$Machine")), [], jP39)
def jm40 : jM := (⟨"LinkedCores", "coreOf", "(I)LLinkedCores$Core;"⟩, 0, prog_1_method_22_code, 3, (some (.object "LinkedCores$Core")), [], jP40)
def jm41 : jM := (⟨"LinkedCores", "build", "(LLinkedCores$Program;)LLinkedCores$Machine;"⟩, 0, prog_1_method_23_code, 6, (some (.object "LinkedCores$Machine")), [], jP41)
def jm42 : jM := (⟨"LinkedCores$Coder", "<init>", "()V"⟩, 1, prog_2_method_1_code, 1, none, [], jP42)
def jm43 : jM := (⟨"LinkedCores$Coder", "translate", "(LLinkedCores$Program;LLinkedCores$Node;)V"⟩, 1, prog_2_method_2_code, 5, none, [], jP43)
def jm44 : jM := (⟨"LinkedCores$Coder", "start", "()I"⟩, 1, prog_2_method_3_code, 1, (some .int), [], jP44)
def jm45 : jM := (⟨"LinkedCores$Coder", "bytes", "()[B"⟩, 1, prog_2_method_4_code, 3, (some (.array .byte)), [], jP45)
def jm46 : jM := (⟨"LinkedCores$Coder", "emit", "(II)V"⟩, 1, prog_2_method_5_code, 3, none, [], jP46)
def jm47 : jM := (⟨"LinkedCores$Coder", "operation", "(I)V"⟩, 1, prog_2_method_6_code, 2, none, [], jP47)
def jm48 : jM := (⟨"LinkedCores$Coder", "way", "(III)V"⟩, 1, prog_2_method_7_code, 5, none, [], jP48)
def jm49 : jM := (⟨"LinkedCores$Coder", "newLabel", "()I"⟩, 1, prog_2_method_8_code, 1, (some .int), [], jP49)
def jm50 : jM := (⟨"LinkedCores$Coder", "here", "(I)V"⟩, 1, prog_2_method_9_code, 2, none, [], jP50)
def jm51 : jM := (⟨"LinkedCores$Coder", "placeOf", "(I)I"⟩, 1, prog_2_method_10_code, 3, (some .int), [], jP51)
def jm52 : jM := (⟨"LinkedCores$Coder", "lengthOf", "(I)I"⟩, 1, prog_2_method_11_code, 4, (some .int), [], jP52)
def jm53 : jM := (⟨"LinkedCores$Coder", "lengthen", "()Z"⟩, 1, prog_2_method_12_code, 4, (some .boolean), [], jP53)
def jm54 : jM := (⟨"LinkedCores$Coder", "originOf", "(I)I"⟩, 1, prog_2_method_13_code, 3, (some .int), [], jP54)
def jm55 : jM := (⟨"LinkedCores$Coder", "write", "([BI)V"⟩, 1, prog_2_method_14_code, 7, none, [], jP55)
def jm56 : jM := (⟨"LinkedCores$Coder", "store", "([BIII)V"⟩, 1, prog_2_method_15_code, 4, none, [], jP56)
def jm57 : jM := (⟨"LinkedCores$Coder", "isPlain", "(LLinkedCores$Node;)Z"⟩, 1, prog_2_method_16_code, 1, (some .boolean), [], jP57)
def jm58 : jM := (⟨"LinkedCores$Coder", "keepsRight", "(LLinkedCores$Node;)Z"⟩, 1, prog_2_method_17_code, 2, (some .boolean), [], jP58)
def jm59 : jM := (⟨"LinkedCores$Coder", "value", "(LLinkedCores$Node;)V"⟩, 1, prog_2_method_18_code, 2, none, [], jP59)
def jm60 : jM := (⟨"LinkedCores$Coder", "valueOfPart", "(LLinkedCores$Node;)V"⟩, 1, prog_2_method_19_code, 3, none, [], jP60)
def jm61 : jM := (⟨"LinkedCores$Coder", "wordOf", "(LLinkedCores$Name;)I"⟩, 1, prog_2_method_20_code, 2, (some .int), [], jP61)
def jm62 : jM := (⟨"LinkedCores$Coder", "address", "(LLinkedCores$Node;)V"⟩, 1, prog_2_method_21_code, 4, none, [], jP62)
def jm63 : jM := (⟨"LinkedCores$Coder", "binary", "(LLinkedCores$Node;)V"⟩, 1, prog_2_method_22_code, 2, none, [], jP63)
def jm64 : jM := (⟨"LinkedCores$Coder", "logical", "(LLinkedCores$Node;)V"⟩, 1, prog_2_method_23_code, 3, none, [], jP64)
def jm65 : jM := (⟨"LinkedCores$Coder", "operator", "(I)V"⟩, 1, prog_2_method_24_code, 3, none, [], jP65)
def jm66 : jM := (⟨"LinkedCores$Coder", "process", "(LLinkedCores$Node;)V"⟩, 1, prog_2_method_25_code, 3, none, [], jP66)
def jm67 : jM := (⟨"LinkedCores$Coder", "declare", "(LLinkedCores$Name;)V"⟩, 1, prog_2_method_26_code, 2, none, [], jP67)
def jm68 : jM := (⟨"LinkedCores$Coder", "assign", "(LLinkedCores$Node;)V"⟩, 1, prog_2_method_27_code, 2, none, [], jP68)
def jm69 : jM := (⟨"LinkedCores$Coder", "call", "(LLinkedCores$Node;)V"⟩, 1, prog_2_method_28_code, 4, none, [], jP69)
def jm70 : jM := (⟨"LinkedCores$Coder", "loop", "(LLinkedCores$Node;)V"⟩, 1, prog_2_method_29_code, 5, none, [], jP70)
def jm71 : jM := (⟨"LinkedCores$Coder", "choose", "(LLinkedCores$Node;)V"⟩, 1, prog_2_method_30_code, 5, none, [], jP71)
def jm72 : jM := (⟨"LinkedCores$Coder", "repeat", "(LLinkedCores$Node;)V"⟩, 1, prog_2_method_31_code, 4, none, [], jP72)
def jm73 : jM := (⟨"LinkedCores$Coder", "fork", "(LLinkedCores$Node;)V"⟩, 1, prog_2_method_32_code, 7, none, [], jP73)
def jm74 : jM := (⟨"LinkedCores$Coder", "startBranches", "(LLinkedCores$Node;)V"⟩, 1, prog_2_method_33_code, 5, none, [], jP74)
def jm75 : jM := (⟨"LinkedCores$Coder", "branch", "(LLinkedCores$Node;LLinkedCores$Node;I)V"⟩, 1, prog_2_method_34_code, 5, none, [], jP75)
def jm76 : jM := (⟨"LinkedCores$Coder", "alternative", "(LLinkedCores$Node;)V"⟩, 1, prog_2_method_35_code, 6, none, [], jP76)
def jm77 : jM := (⟨"LinkedCores$Coder", "prepare", "(LLinkedCores$Node;I)V"⟩, 1, prog_2_method_36_code, 3, none, [], jP77)
def jm78 : jM := (⟨"LinkedCores$Coder", "loadGuard", "(LLinkedCores$Node;III)V"⟩, 1, prog_2_method_37_code, 5, none, [], jP78)
def jm79 : jM := (⟨"LinkedCores$Coder", "answers", "(LLinkedCores$Node;I)V"⟩, 1, prog_2_method_38_code, 7, none, [], jP79)
def jm80 : jM := (⟨"LinkedCores$Core", "<init>", "(LLinkedCores$Machine;[BILLinkedCores$Node;)V"⟩, 2, prog_3_method_1_code, 6, none, [], jP80)
def jm81 : jM := (⟨"LinkedCores$Core", "reset", "()V"⟩, 2, prog_3_method_2_code, 2, none, [], jP81)
def jm82 : jM := (⟨"LinkedCores$Core", "clearRegisters", "()V"⟩, 2, prog_3_method_3_code, 1, none, [], jP82)
def jm83 : jM := (⟨"LinkedCores$Core", "register", "(I)I"⟩, 2, prog_3_method_4_code, 2, (some .int), [], jP83)
def jm84 : jM := (⟨"LinkedCores$Core", "state", "(I)I"⟩, 2, prog_3_method_5_code, 2, (some .int), [], jP84)
def jm85 : jM := (⟨"LinkedCores$Core", "decode", "(II)I"⟩, 2, prog_3_method_6_code, 6, (some .int), [], jP85)
def jm86 : jM := (⟨"LinkedCores$Core", "peek", "(I)I"⟩, 2, prog_3_method_7_code, 2, (some .int), [], jP86)
def jm87 : jM := (⟨"LinkedCores$Core", "poke", "(II)V"⟩, 2, prog_3_method_8_code, 3, none, [], jP87)
def jm88 : jM := (⟨"LinkedCores$Core", "push", "(I)V"⟩, 2, prog_3_method_9_code, 2, none, [], jP88)
def jm89 : jM := (⟨"LinkedCores$Core", "drop", "()V"⟩, 2, prog_3_method_10_code, 1, none, [], jP89)
def jm90 : jM := (⟨"LinkedCores$Core", "dropTwo", "()V"⟩, 2, prog_3_method_11_code, 1, none, [], jP90)
def jm91 : jM := (⟨"LinkedCores$Core", "replaceTwo", "(I)V"⟩, 2, prog_3_method_12_code, 2, none, [], jP91)
def jm92 : jM := (⟨"LinkedCores$Core", "self", "()I"⟩, 2, prog_3_method_13_code, 1, (some .int), [], jP92)
def jm93 : jM := (⟨"LinkedCores$Core", "insert", "(II)V"⟩, 2, prog_3_method_14_code, 3, none, [], jP93)
def jm94 : jM := (⟨"LinkedCores$Core", "wake", "(I)V"⟩, 2, prog_3_method_15_code, 2, none, [], jP94)
def jm95 : jM := (⟨"LinkedCores$Core", "leave", "()V"⟩, 2, prog_3_method_16_code, 1, none, [], jP95)
def jm96 : jM := (⟨"LinkedCores$Core", "dispatch", "()V"⟩, 2, prog_3_method_17_code, 2, none, [], jP96)
def jm97 : jM := (⟨"LinkedCores$Core", "settle", "()V"⟩, 2, prog_3_method_18_code, 1, none, [], jP97)
def jm98 : jM := (⟨"LinkedCores$Core", "fail", "()V"⟩, 2, prog_3_method_19_code, 1, none, [], jP98)
def jm99 : jM := (⟨"LinkedCores$Core", "waitHere", "()V"⟩, 2, prog_3_method_20_code, 1, none, [], jP99)
def jm100 : jM := (⟨"LinkedCores$Core", "waitAt", "(II)V"⟩, 2, prog_3_method_21_code, 3, none, [], jP100)
def jm101 : jM := (⟨"LinkedCores$Core", "isAlt", "(I)Z"⟩, 2, prog_3_method_22_code, 1, (some .boolean), [], jP101)
def jm102 : jM := (⟨"LinkedCores$Core", "alert", "(I)V"⟩, 2, prog_3_method_23_code, 4, none, [], jP102)
def jm103 : jM := (⟨"LinkedCores$Core", "receive", "(II)Z"⟩, 2, prog_3_method_24_code, 5, (some .boolean), [], jP103)
def jm104 : jM := (⟨"LinkedCores$Core", "release", "(I)V"⟩, 2, prog_3_method_25_code, 3, none, [], jP104)
def jm105 : jM := (⟨"LinkedCores$Core", "step", "()V"⟩, 2, prog_3_method_26_code, 4, none, [], jP105)
def jm106 : jM := (⟨"LinkedCores$Core", "perform", "(II)V"⟩, 2, prog_3_method_27_code, 3, none, [], jP106)
def jm107 : jM := (⟨"LinkedCores$Core", "jump", "(I)V"⟩, 2, prog_3_method_28_code, 2, none, [], jP107)
def jm108 : jM := (⟨"LinkedCores$Core", "calculate", "(I)V"⟩, 2, prog_3_method_29_code, 3, none, [], jP108)
def jm109 : jM := (⟨"LinkedCores$Core", "divide", "(I)V"⟩, 2, prog_3_method_30_code, 2, none, [], jP109)
def jm110 : jM := (⟨"LinkedCores$Core", "manage", "(I)V"⟩, 2, prog_3_method_31_code, 2, none, [], jP110)
def jm111 : jM := (⟨"LinkedCores$Core", "check", "()V"⟩, 2, prog_3_method_32_code, 2, none, [], jP111)
def jm112 : jM := (⟨"LinkedCores$Core", "fill", "()V"⟩, 2, prog_3_method_33_code, 3, none, [], jP112)
def jm113 : jM := (⟨"LinkedCores$Core", "startProcess", "(I)V"⟩, 2, prog_3_method_34_code, 3, none, [], jP113)
def jm114 : jM := (⟨"LinkedCores$Core", "endProcess", "()V"⟩, 2, prog_3_method_35_code, 4, none, [], jP114)
def jm115 : jM := (⟨"LinkedCores$Core", "takeFrom", "()V"⟩, 2, prog_3_method_36_code, 4, none, [], jP115)
def jm116 : jM := (⟨"LinkedCores$Core", "sendOn", "()V"⟩, 2, prog_3_method_37_code, 5, none, [], jP116)
def jm117 : jM := (⟨"LinkedCores$Core", "offers", "(I)Z"⟩, 2, prog_3_method_38_code, 3, (some .boolean), [], jP117)
def jm118 : jM := (⟨"LinkedCores$Core", "alternate", "(I)V"⟩, 2, prog_3_method_39_code, 2, none, [], jP118)
def jm119 : jM := (⟨"LinkedCores$Core", "enable", "()V"⟩, 2, prog_3_method_40_code, 2, none, [], jP119)
def jm120 : jM := (⟨"LinkedCores$Core", "disable", "()V"⟩, 2, prog_3_method_41_code, 5, none, [], jP120)
def jm121 : jM := (⟨"LinkedCores$Core", "choose", "(II)V"⟩, 2, prog_3_method_42_code, 3, none, [], jP121)
def jm122 : jM := (⟨"LinkedCores$Layout", "<init>", "()V"⟩, 3, prog_4_method_1_code, 1, none, [], jP122)
def jm123 : jM := (⟨"LinkedCores$Layout", "measure", "(LLinkedCores$Program;)V"⟩, 3, prog_4_method_2_code, 6, none, [], jP123)
def jm124 : jM := (⟨"LinkedCores$Layout", "judge", "(LLinkedCores$Program;LLinkedCores$Node;)V"⟩, 3, prog_4_method_3_code, 2, none, [], jP124)
def jm125 : jM := (⟨"LinkedCores$Layout", "frame", "(LLinkedCores$Node;I)V"⟩, 3, prog_4_method_4_code, 4, none, [], jP125)
def jm126 : jM := (⟨"LinkedCores$Layout", "grow", "(I)V"⟩, 3, prog_4_method_5_code, 2, none, [], jP126)
def jm127 : jM := (⟨"LinkedCores$Layout", "process", "(LLinkedCores$Node;I)I"⟩, 3, prog_4_method_6_code, 5, (some .int), [], jP127)
def jm128 : jM := (⟨"LinkedCores$Layout", "deeper", "(ILLinkedCores$Node;I)I"⟩, 3, prog_4_method_7_code, 4, (some .int), [], jP128)
def jm129 : jM := (⟨"LinkedCores$Layout", "children", "(LLinkedCores$Node;I)I"⟩, 3, prog_4_method_8_code, 5, (some .int), [], jP129)
def jm130 : jM := (⟨"LinkedCores$Layout", "loop", "(LLinkedCores$Node;I)I"⟩, 3, prog_4_method_9_code, 3, (some .int), [], jP130)
def jm131 : jM := (⟨"LinkedCores$Layout", "branches", "(LLinkedCores$Node;I)I"⟩, 3, prog_4_method_10_code, 6, (some .int), [], jP131)
def jm132 : jM := (⟨"LinkedCores$Layout", "choices", "(LLinkedCores$Node;I)I"⟩, 3, prog_4_method_11_code, 5, (some .int), [], jP132)
def jm133 : jM := (⟨"LinkedCores$Layout", "keep", "(LLinkedCores$Node;I)V"⟩, 3, prog_4_method_12_code, 3, none, [], jP133)
def jm134 : jM := (⟨"LinkedCores$Link", "<init>", "(II)V"⟩, 4, prog_5_method_1_code, 3, none, [], jP134)
def jm135 : jM := (⟨"LinkedCores$Link", "clear", "()V"⟩, 4, prog_5_method_2_code, 1, none, [], jP135)
def jm136 : jM := (⟨"LinkedCores$Link", "load", "(I)V"⟩, 4, prog_5_method_3_code, 2, none, [], jP136)
def jm137 : jM := (⟨"LinkedCores$Link", "isBusy", "()Z"⟩, 4, prog_5_method_4_code, 1, (some .boolean), [], jP137)
def jm138 : jM := (⟨"LinkedCores$Link", "isWhole", "()Z"⟩, 4, prog_5_method_5_code, 1, (some .boolean), [], jP138)
def jm139 : jM := (⟨"LinkedCores$Link", "take", "()V"⟩, 4, prog_5_method_6_code, 1, none, [], jP139)
def jm140 : jM := (⟨"LinkedCores$Machine", "<init>", "(LLinkedCores$Program;)V"⟩, 5, prog_6_method_1_code, 2, none, [], jP140)
def jm141 : jM := (⟨"LinkedCores$Machine", "reset", "()V"⟩, 5, prog_6_method_2_code, 3, none, [], jP141)
def jm142 : jM := (⟨"LinkedCores$Machine", "count", "()I"⟩, 5, prog_6_method_3_code, 3, (some .int), [], jP142)
def jm143 : jM := (⟨"LinkedCores$Machine", "coreAt", "(I)LLinkedCores$Core;"⟩, 5, prog_6_method_4_code, 2, (some (.object "LinkedCores$Core")), [], jP143)
def jm144 : jM := (⟨"LinkedCores$Machine", "linkAt", "(I)LLinkedCores$Link;"⟩, 5, prog_6_method_5_code, 2, (some (.object "LinkedCores$Link")), [], jP144)
def jm145 : jM := (⟨"LinkedCores$Machine", "hasInput", "()Z"⟩, 5, prog_6_method_6_code, 1, (some .boolean), [], jP145)
def jm146 : jM := (⟨"LinkedCores$Machine", "takeInput", "()I"⟩, 5, prog_6_method_7_code, 2, (some .int), [], jP146)
def jm147 : jM := (⟨"LinkedCores$Machine", "offer", "(I)V"⟩, 5, prog_6_method_8_code, 3, none, [], jP147)
def jm148 : jM := (⟨"LinkedCores$Machine", "show", "(I)V"⟩, 5, prog_6_method_9_code, 2, none, [], jP148)
def jm149 : jM := (⟨"LinkedCores$Machine", "round", "()V"⟩, 5, prog_6_method_10_code, 2, none, [], jP149)
def jm150 : jM := (⟨"LinkedCores$Machine", "pulse", "()I"⟩, 5, prog_6_method_11_code, 4, (some .int), [], jP150)
def jm151 : jM := (⟨"LinkedCores$Machine", "carry", "(LLinkedCores$Link;I)V"⟩, 5, prog_6_method_12_code, 4, none, [], jP151)
def jm152 : jM := (⟨"LinkedCores$Machine", "result", "()I"⟩, 5, prog_6_method_13_code, 5, (some .int), [], jP152)
def jm153 : jM := (⟨"LinkedCores$Name", "<init>", "(IJII)V"⟩, 6, prog_7_method_1_code, 6, none, [], jP153)
def jm154 : jM := (⟨"LinkedCores$Name", "isRow", "()Z"⟩, 6, prog_7_method_2_code, 1, (some .boolean), [], jP154)
def jm155 : jM := (⟨"LinkedCores$Name", "isChannel", "()Z"⟩, 6, prog_7_method_3_code, 1, (some .boolean), [], jP155)
def jm156 : jM := (⟨"LinkedCores$Name", "isTarget", "()Z"⟩, 6, prog_7_method_4_code, 1, (some .boolean), [], jP156)
def jm157 : jM := (⟨"LinkedCores$Name", "isValue", "()Z"⟩, 6, prog_7_method_5_code, 1, (some .boolean), [], jP157)
def jm158 : jM := (⟨"LinkedCores$Node", "<init>", "(II)V"⟩, 7, prog_8_method_1_code, 3, none, [], jP158)
def jm159 : jM := (⟨"LinkedCores$Parser", "<init>", "(LLinkedCores$Program;LLinkedCores$Scanner;)V"⟩, 8, prog_9_method_1_code, 3, none, [], jP159)
def jm160 : jM := (⟨"LinkedCores$Parser", "parse", "()V"⟩, 8, prog_9_method_2_code, 2, none, [(16, 133, 136, 62)], jP160)
def jm161 : jM := (⟨"LinkedCores$Parser", "showHost", "(Ljava/lang/String;I)V"⟩, 8, prog_9_method_3_code, 4, none, [], jP161)
def jm162 : jM := (⟨"LinkedCores$Parser", "fail", "(II)V"⟩, 8, prog_9_method_4_code, 3, none, [], jP162)
def jm163 : jM := (⟨"LinkedCores$Parser", "form", "()V"⟩, 8, prog_9_method_5_code, 1, none, [], jP163)
def jm164 : jM := (⟨"LinkedCores$Parser", "expect", "(I)V"⟩, 8, prog_9_method_6_code, 2, none, [], jP164)
def jm165 : jM := (⟨"LinkedCores$Parser", "needLevel", "(I)V"⟩, 8, prog_9_method_7_code, 2, none, [], jP165)
def jm166 : jM := (⟨"LinkedCores$Parser", "endLine", "()V"⟩, 8, prog_9_method_8_code, 1, none, [], jP166)
def jm167 : jM := (⟨"LinkedCores$Parser", "readNumber", "(II)I"⟩, 8, prog_9_method_9_code, 4, (some .int), [], jP167)
def jm168 : jM := (⟨"LinkedCores$Parser", "show", "(LLinkedCores$Name;)V"⟩, 8, prog_9_method_10_code, 2, none, [], jP168)
def jm169 : jM := (⟨"LinkedCores$Parser", "find", "()LLinkedCores$Name;"⟩, 8, prog_9_method_11_code, 2, (some (.object "LinkedCores$Name")), [], jP169)
def jm170 : jM := (⟨"LinkedCores$Parser", "known", "()LLinkedCores$Name;"⟩, 8, prog_9_method_12_code, 2, (some (.object "LinkedCores$Name")), [], jP170)
def jm171 : jM := (⟨"LinkedCores$Parser", "fresh", "(IILLinkedCores$Name;)LLinkedCores$Name;"⟩, 8, prog_9_method_13_code, 5, (some (.object "LinkedCores$Name")), [], jP171)
def jm172 : jM := (⟨"LinkedCores$Parser", "readProc", "()V"⟩, 8, prog_9_method_14_code, 3, none, [], jP172)
def jm173 : jM := (⟨"LinkedCores$Parser", "readParameters", "(LLinkedCores$Name;)V"⟩, 8, prog_9_method_15_code, 6, none, [], jP173)
def jm174 : jM := (⟨"LinkedCores$Parser", "readParameter", "(LLinkedCores$Name;)LLinkedCores$Name;"⟩, 8, prog_9_method_16_code, 5, (some (.object "LinkedCores$Name")), [], jP174)
def jm175 : jM := (⟨"LinkedCores$Parser", "readPlaced", "()V"⟩, 8, prog_9_method_17_code, 5, none, [], jP175)
def jm176 : jM := (⟨"LinkedCores$Parser", "readLink", "()V"⟩, 8, prog_9_method_18_code, 4, none, [], jP176)
def jm177 : jM := (⟨"LinkedCores$Parser", "process", "(I)LLinkedCores$Node;"⟩, 8, prog_9_method_19_code, 7, (some (.object "LinkedCores$Node")), [], jP177)
def jm178 : jM := (⟨"LinkedCores$Parser", "startsDeclaration", "()Z"⟩, 8, prog_9_method_20_code, 1, (some .boolean), [], jP178)
def jm179 : jM := (⟨"LinkedCores$Parser", "readDeclaration", "()LLinkedCores$Name;"⟩, 8, prog_9_method_21_code, 9, (some (.object "LinkedCores$Name")), [], jP179)
def jm180 : jM := (⟨"LinkedCores$Parser", "readStatement", "(LLinkedCores$Node;I)V"⟩, 8, prog_9_method_22_code, 3, none, [], jP180)
def jm181 : jM := (⟨"LinkedCores$Parser", "readSeq", "(LLinkedCores$Node;I)V"⟩, 8, prog_9_method_23_code, 3, none, [], jP181)
def jm182 : jM := (⟨"LinkedCores$Parser", "readPar", "(LLinkedCores$Node;I)V"⟩, 8, prog_9_method_24_code, 4, none, [], jP182)
def jm183 : jM := (⟨"LinkedCores$Parser", "below", "(LLinkedCores$Name;I)LLinkedCores$Node;"⟩, 8, prog_9_method_25_code, 5, (some (.object "LinkedCores$Node")), [], jP183)
def jm184 : jM := (⟨"LinkedCores$Parser", "readBranches", "(LLinkedCores$Node;II)V"⟩, 8, prog_9_method_26_code, 4, none, [], jP184)
def jm185 : jM := (⟨"LinkedCores$Parser", "readChildren", "(LLinkedCores$Node;II)V"⟩, 8, prog_9_method_27_code, 6, none, [], jP185)
def jm186 : jM := (⟨"LinkedCores$Parser", "append", "(LLinkedCores$Node;LLinkedCores$Node;LLinkedCores$Node;)LLinkedCores$Node;"⟩, 8, prog_9_method_28_code, 3, (some (.object "LinkedCores$Node")), [], jP186)
def jm187 : jM := (⟨"LinkedCores$Parser", "readIf", "(LLinkedCores$Node;I)V"⟩, 8, prog_9_method_29_code, 6, none, [], jP187)
def jm188 : jM := (⟨"LinkedCores$Parser", "readAlt", "(LLinkedCores$Node;I)V"⟩, 8, prog_9_method_30_code, 6, none, [], jP188)
def jm189 : jM := (⟨"LinkedCores$Parser", "readGuard", "(LLinkedCores$Node;)V"⟩, 8, prog_9_method_31_code, 4, none, [], jP189)
def jm190 : jM := (⟨"LinkedCores$Parser", "readSimple", "(LLinkedCores$Node;)V"⟩, 8, prog_9_method_32_code, 5, none, [], jP190)
def jm191 : jM := (⟨"LinkedCores$Parser", "readArguments", "(LLinkedCores$Node;)V"⟩, 8, prog_9_method_33_code, 6, none, [], jP191)
def jm192 : jM := (⟨"LinkedCores$Parser", "readArray", "(I)LLinkedCores$Node;"⟩, 8, prog_9_method_34_code, 6, (some (.object "LinkedCores$Node")), [], jP192)
def jm193 : jM := (⟨"LinkedCores$Parser", "newPart", "(LLinkedCores$Name;)LLinkedCores$Node;"⟩, 8, prog_9_method_35_code, 3, (some (.object "LinkedCores$Node")), [], jP193)
def jm194 : jM := (⟨"LinkedCores$Parser", "judge", "(LLinkedCores$Node;ZI)V"⟩, 8, prog_9_method_36_code, 4, none, [], jP194)
def jm195 : jM := (⟨"LinkedCores$Parser", "unjudged", "()LLinkedCores$Node;"⟩, 8, prog_9_method_37_code, 3, (some (.object "LinkedCores$Node")), [], jP195)
def jm196 : jM := (⟨"LinkedCores$Parser", "judged", "(Z)LLinkedCores$Node;"⟩, 8, prog_9_method_38_code, 4, (some (.object "LinkedCores$Node")), [], jP196)
def jm197 : jM := (⟨"LinkedCores$Parser", "readTarget", "()LLinkedCores$Node;"⟩, 8, prog_9_method_39_code, 1, (some (.object "LinkedCores$Node")), [], jP197)
def jm198 : jM := (⟨"LinkedCores$Parser", "openBracket", "()V"⟩, 8, prog_9_method_40_code, 1, none, [], jP198)
def jm199 : jM := (⟨"LinkedCores$Parser", "closeBracket", "(I)V"⟩, 8, prog_9_method_41_code, 2, none, [], jP199)
def jm200 : jM := (⟨"LinkedCores$Parser", "expression", "()LLinkedCores$Node;"⟩, 8, prog_9_method_42_code, 2, (some (.object "LinkedCores$Node")), [], jP200)
def jm201 : jM := (⟨"LinkedCores$Parser", "operated", "(LLinkedCores$Node;)LLinkedCores$Node;"⟩, 8, prog_9_method_43_code, 3, (some (.object "LinkedCores$Node")), [], jP201)
def jm202 : jM := (⟨"LinkedCores$Parser", "operand", "()LLinkedCores$Node;"⟩, 8, prog_9_method_44_code, 2, (some (.object "LinkedCores$Node")), [], jP202)
def jm203 : jM := (⟨"LinkedCores$Parser", "numeral", "(I)LLinkedCores$Node;"⟩, 8, prog_9_method_45_code, 3, (some (.object "LinkedCores$Node")), [], jP203)
def jm204 : jM := (⟨"LinkedCores$Program", "<init>", "()V"⟩, 9, prog_10_method_1_code, 1, none, [], jP204)
def jm205 : jM := (⟨"LinkedCores$Program", "blame", "(III)V"⟩, 9, prog_10_method_2_code, 4, none, [], jP205)
def jm206 : jM := (⟨"LinkedCores$Scanner", "<init>", "([BI)V"⟩, 10, prog_11_method_1_code, 4, none, [], jP206)
def jm207 : jM := (⟨"LinkedCores$Scanner", "next", "()V"⟩, 10, prog_11_method_2_code, 1, none, [], jP207)
def jm208 : jM := (⟨"LinkedCores$Scanner", "nextLine", "()V"⟩, 10, prog_11_method_3_code, 1, none, [], jP208)
def jm209 : jM := (⟨"LinkedCores$Scanner", "load", "()V"⟩, 10, prog_11_method_4_code, 1, none, [], jP209)
def jm210 : jM := (⟨"LinkedCores$Scanner", "isOperator", "()Z"⟩, 10, prog_11_method_5_code, 1, (some .boolean), [], jP210)
def jm211 : jM := (⟨"LinkedCores$Scanner", "scan", "()V"⟩, 10, prog_11_method_6_code, 3, none, [], jP211)
def jm212 : jM := (⟨"LinkedCores$Scanner", "scanLine", "(I)I"⟩, 10, prog_11_method_7_code, 6, (some .int), [], jP212)
def jm213 : jM := (⟨"LinkedCores$Scanner", "sign", "(I)I"⟩, 10, prog_11_method_8_code, 2, (some .int), [], jP213)
def jm214 : jM := (⟨"LinkedCores$Scanner", "skipBlanks", "()V"⟩, 10, prog_11_method_9_code, 1, none, [], jP214)
def jm215 : jM := (⟨"LinkedCores$Scanner", "add", "(IIJ)V"⟩, 10, prog_11_method_10_code, 5, none, [], jP215)
def jm216 : jM := (⟨"LinkedCores$Scanner", "scanToken", "()V"⟩, 10, prog_11_method_11_code, 2, none, [], jP216)
def jm217 : jM := (⟨"LinkedCores$Scanner", "capital", "(I)Z"⟩, 10, prog_11_method_12_code, 1, (some .boolean), [], jP217)
def jm218 : jM := (⟨"LinkedCores$Scanner", "digit", "(I)Z"⟩, 10, prog_11_method_13_code, 1, (some .boolean), [], jP218)
def jm219 : jM := (⟨"LinkedCores$Scanner", "scanName", "()V"⟩, 10, prog_11_method_14_code, 4, none, [], jP219)
def jm220 : jM := (⟨"LinkedCores$Scanner", "keyOf", "(Ljava/lang/String;)J"⟩, 10, prog_11_method_15_code, 4, (some .long), [], jP220)
def jm221 : jM := (⟨"LinkedCores$Scanner", "scanKeyword", "()V"⟩, 10, prog_11_method_16_code, 6, none, [], jP221)
def jm222 : jM := (⟨"LinkedCores$Scanner", "isHere", "(III)Z"⟩, 10, prog_11_method_17_code, 5, (some .boolean), [], jP222)
def jm223 : jM := (⟨"LinkedCores$Scanner", "scanNumber", "()V"⟩, 10, prog_11_method_18_code, 4, none, [], jP223)
def jm224 : jM := (⟨"LinkedCores$Scanner", "scanSign", "(I)V"⟩, 10, prog_11_method_19_code, 4, none, [], jP224)
def jm225 : jM := (⟨"LinkedCores$Uses", "<init>", "(LLinkedCores$Program;)V"⟩, 11, prog_12_method_1_code, 2, none, [], jP225)
def jm226 : jM := (⟨"LinkedCores$Uses", "judge", "()V"⟩, 11, prog_12_method_2_code, 3, none, [], jP226)
def jm227 : jM := (⟨"LinkedCores$Uses", "blame", "(I)V"⟩, 11, prog_12_method_3_code, 2, none, [], jP227)
def jm228 : jM := (⟨"LinkedCores$Uses", "process", "(LLinkedCores$Node;)V"⟩, 11, prog_12_method_4_code, 3, none, [], jP228)
def jm229 : jM := (⟨"LinkedCores$Uses", "choices", "(LLinkedCores$Node;)V"⟩, 11, prog_12_method_5_code, 3, none, [], jP229)
def jm230 : jM := (⟨"LinkedCores$Uses", "read", "(LLinkedCores$Node;)V"⟩, 11, prog_12_method_6_code, 2, none, [], jP230)
def jm231 : jM := (⟨"LinkedCores$Uses", "use", "(LLinkedCores$Node;I)V"⟩, 11, prog_12_method_7_code, 3, none, [], jP231)
def jm232 : jM := (⟨"LinkedCores$Uses", "findElement", "(LLinkedCores$Node;)V"⟩, 11, prog_12_method_8_code, 4, none, [], jP232)
def jm233 : jM := (⟨"LinkedCores$Uses", "mayUse", "(II)Z"⟩, 11, prog_12_method_9_code, 6, (some .boolean), [], jP233)
def jm234 : jM := (⟨"LinkedCores$Uses", "arguments", "(LLinkedCores$Node;)V"⟩, 11, prog_12_method_10_code, 4, none, [], jP234)
def jm235 : jM := (⟨"LinkedCores$Uses", "againstOthers", "(LLinkedCores$Node;LLinkedCores$Node;LLinkedCores$Name;)V"⟩, 11, prog_12_method_11_code, 7, none, [], jP235)
def jm236 : jM := (⟨"LinkedCores$Uses", "clash", "(II)Z"⟩, 11, prog_12_method_12_code, 3, (some .boolean), [], jP236)
def jm237 : jM := (⟨"LinkedCores$Uses", "branches", "(LLinkedCores$Node;)V"⟩, 11, prog_12_method_13_code, 4, none, [], jP237)
def jm238 : jM := (⟨"LinkedCores$Uses", "compare", "(LLinkedCores$Node;LLinkedCores$Node;LLinkedCores$Node;)V"⟩, 11, prog_12_method_14_code, 9, none, [], jP238)
def jm239 : jM := (⟨"LinkedCores$Uses", "against", "(LLinkedCores$Node;LLinkedCores$Node;LLinkedCores$Name;)Z"⟩, 11, prog_12_method_15_code, 4, (some .boolean), [], jP239)
def jm240 : jM := (⟨"LinkedCores$Uses", "meets", "(LLinkedCores$Node;LLinkedCores$Node;LLinkedCores$Name;)Z"⟩, 11, prog_12_method_16_code, 8, (some .boolean), [], jP240)
def jm241 : jM := (⟨"LinkedCores$Uses", "atOnce", "(LLinkedCores$Name;IILLinkedCores$Name;)Z"⟩, 11, prog_12_method_17_code, 4, (some .boolean), [], jP241)
def jm242 : jM := (⟨"LinkedCores$Uses", "elementOf", "(LLinkedCores$Node;I)I"⟩, 11, prog_12_method_18_code, 2, (some .int), [], jP242)
def jm243 : jM := (⟨"LinkedCoresModel", "<init>", "()V"⟩, 12, prog_14_method_1_code, 1, none, [], jP243)
def jm244 : jM := (⟨"LinkedCoresModel", "thrown", "()I"⟩, 12, prog_14_method_2_code, 1, (some .int), [], jP244)
def jm245 : jM := (⟨"LinkedCoresModel", "refuse", "(ZZZ)Z"⟩, 12, prog_14_method_3_code, 4, (some .boolean), [], jP245)
def jm246 : jM := (⟨"LinkedCoresModel", "in", "(III)Z"⟩, 12, prog_14_method_4_code, 3, (some .boolean), [], jP246)
def jm247 : jM := (⟨"LinkedCoresModel", "isSign", "(I)Z"⟩, 12, prog_14_method_5_code, 1, (some .boolean), [], jP247)
def jm248 : jM := (⟨"LinkedCoresModel", "put", "(I)I"⟩, 12, prog_14_method_6_code, 6, (some .int), [], jP248)
def jm249 : jM := (⟨"LinkedCoresModel", "end", "(I)V"⟩, 12, prog_14_method_7_code, 2, none, [], jP249)
def jm250 : jM := (⟨"LinkedCoresModel", "fail", "(II)V"⟩, 12, prog_14_method_8_code, 3, none, [], jP250)
def jm251 : jM := (⟨"LinkedCoresModel", "bad", "()Z"⟩, 12, prog_14_method_9_code, 1, (some .boolean), [], jP251)
def jm252 : jM := (⟨"LinkedCoresModel", "findLines", "()V"⟩, 12, prog_14_method_10_code, 6, none, [], jP252)
def jm253 : jM := (⟨"LinkedCoresModel", "sign", "(I)I"⟩, 12, prog_14_method_11_code, 2, (some .int), [], jP253)
def jm254 : jM := (⟨"LinkedCoresModel", "isSmall", "(I)Z"⟩, 12, prog_14_method_12_code, 1, (some .boolean), [], jP254)
def jm255 : jM := (⟨"LinkedCoresModel", "isBig", "(I)Z"⟩, 12, prog_14_method_13_code, 1, (some .boolean), [], jP255)
def jm256 : jM := (⟨"LinkedCoresModel", "isDigit", "(I)Z"⟩, 12, prog_14_method_14_code, 1, (some .boolean), [], jP256)
def jm257 : jM := (⟨"LinkedCoresModel", "digit", "(I)J"⟩, 12, prog_14_method_15_code, 1, (some .long), [], jP257)
def jm258 : jM := (⟨"LinkedCoresModel", "openLine", "()V"⟩, 12, prog_14_method_16_code, 1, none, [], jP258)
def jm259 : jM := (⟨"LinkedCoresModel", "next", "()V"⟩, 12, prog_14_method_17_code, 2, none, [], jP259)
def jm260 : jM := (⟨"LinkedCoresModel", "nameToken", "()V"⟩, 12, prog_14_method_18_code, 2, none, [], jP260)
def jm261 : jM := (⟨"LinkedCoresModel", "nameOf", "(Ljava/lang/String;)J"⟩, 12, prog_14_method_19_code, 4, (some .long), [], jP261)
def jm262 : jM := (⟨"LinkedCoresModel", "keyToken", "()V"⟩, 12, prog_14_method_20_code, 4, none, [], jP262)
def jm263 : jM := (⟨"LinkedCoresModel", "keyOf", "(J)I"⟩, 12, prog_14_method_21_code, 8, (some .int), [], jP263)
def jm264 : jM := (⟨"LinkedCoresModel", "numberToken", "()V"⟩, 12, prog_14_method_22_code, 5, none, [], jP264)
def jm265 : jM := (⟨"LinkedCoresModel", "pair", "(II)I"⟩, 12, prog_14_method_23_code, 2, (some .int), [], jP265)
def jm266 : jM := (⟨"LinkedCoresModel", "signToken", "(I)V"⟩, 12, prog_14_method_24_code, 4, none, [], jP266)
def jm267 : jM := (⟨"LinkedCoresModel", "isKey", "(I)Z"⟩, 12, prog_14_method_25_code, 2, (some .boolean), [], jP267)
def jm268 : jM := (⟨"LinkedCoresModel", "is", "(I)Z"⟩, 12, prog_14_method_26_code, 2, (some .boolean), [], jP268)
def jm269 : jM := (⟨"LinkedCoresModel", "need", "(Z)V"⟩, 12, prog_14_method_27_code, 2, none, [], jP269)
def jm270 : jM := (⟨"LinkedCoresModel", "endLine", "()V"⟩, 12, prog_14_method_28_code, 1, none, [], jP270)
def jm271 : jM := (⟨"LinkedCoresModel", "open", "()V"⟩, 12, prog_14_method_29_code, 1, none, [], jP271)
def jm272 : jM := (⟨"LinkedCoresModel", "needLevel", "(I)Z"⟩, 12, prog_14_method_30_code, 2, (some .boolean), [], jP272)
def jm273 : jM := (⟨"LinkedCoresModel", "isBelow", "(I)Z"⟩, 12, prog_14_method_31_code, 2, (some .boolean), [], jP273)
def jm274 : jM := (⟨"LinkedCoresModel", "find", "(J)I"⟩, 12, prog_14_method_32_code, 4, (some .int), [], jP274)
def jm275 : jM := (⟨"LinkedCoresModel", "show", "(I)V"⟩, 12, prog_14_method_33_code, 2, none, [], jP275)
def jm276 : jM := (⟨"LinkedCoresModel", "newName", "(II)I"⟩, 12, prog_14_method_34_code, 3, (some .int), [], jP276)
def jm277 : jM := (⟨"LinkedCoresModel", "symbol", "(JII)I"⟩, 12, prog_14_method_35_code, 6, (some .int), [], jP277)
def jm278 : jM := (⟨"LinkedCoresModel", "node", "(IIIII)I"⟩, 12, prog_14_method_36_code, 7, (some .int), [], jP278)
def jm279 : jM := (⟨"LinkedCoresModel", "lookUp", "()I"⟩, 12, prog_14_method_37_code, 2, (some .int), [], jP279)
def jm280 : jM := (⟨"LinkedCoresModel", "isValue", "(I)Z"⟩, 12, prog_14_method_38_code, 1, (some .boolean), [], jP280)
def jm281 : jM := (⟨"LinkedCoresModel", "isVariable", "(I)Z"⟩, 12, prog_14_method_39_code, 1, (some .boolean), [], jP281)
def jm282 : jM := (⟨"LinkedCoresModel", "isArray", "(I)Z"⟩, 12, prog_14_method_40_code, 1, (some .boolean), [], jP282)
def jm283 : jM := (⟨"LinkedCoresModel", "isChannel", "(I)Z"⟩, 12, prog_14_method_41_code, 1, (some .boolean), [], jP283)
def jm284 : jM := (⟨"LinkedCoresModel", "readIndex", "()I"⟩, 12, prog_14_method_42_code, 2, (some .int), [], jP284)
def jm285 : jM := (⟨"LinkedCoresModel", "operationAt", "()I"⟩, 12, prog_14_method_43_code, 2, (some .int), [], jP285)
def jm286 : jM := (⟨"LinkedCoresModel", "readE", "()I"⟩, 12, prog_14_method_44_code, 3, (some .int), [], jP286)
def jm287 : jM := (⟨"LinkedCoresModel", "readRest", "(I)I"⟩, 12, prog_14_method_45_code, 4, (some .int), [], jP287)
def jm288 : jM := (⟨"LinkedCoresModel", "readOperand", "()I"⟩, 12, prog_14_method_46_code, 3, (some .int), [], jP288)
def jm289 : jM := (⟨"LinkedCoresModel", "readValue", "(II)I"⟩, 12, prog_14_method_47_code, 4, (some .int), [], jP289)
def jm290 : jM := (⟨"LinkedCoresModel", "readReference", "(Z)I"⟩, 12, prog_14_method_48_code, 4, (some .int), [], jP290)
def jm291 : jM := (⟨"LinkedCoresModel", "readBehind", "(IIZ)I"⟩, 12, prog_14_method_49_code, 6, (some .int), [], jP291)
def jm292 : jM := (⟨"LinkedCoresModel", "readProcess", "(I)I"⟩, 12, prog_14_method_50_code, 6, (some .int), [], jP292)
def jm293 : jM := (⟨"LinkedCoresModel", "needNumber", "(II)I"⟩, 12, prog_14_method_51_code, 4, (some .int), [], jP293)
def jm294 : jM := (⟨"LinkedCoresModel", "readDeclaration", "()V"⟩, 12, prog_14_method_52_code, 8, none, [], jP294)
def jm295 : jM := (⟨"LinkedCoresModel", "readStatement", "(I)I"⟩, 12, prog_14_method_53_code, 4, (some .int), [], jP295)
def jm296 : jM := (⟨"LinkedCoresModel", "readChildren", "(IIII)V"⟩, 12, prog_14_method_54_code, 8, none, [], jP296)
def jm297 : jM := (⟨"LinkedCoresModel", "readSeq", "(I)I"⟩, 12, prog_14_method_55_code, 3, (some .int), [], jP297)
def jm298 : jM := (⟨"LinkedCoresModel", "readIndexed", "(II)I"⟩, 12, prog_14_method_56_code, 4, (some .int), [], jP298)
def jm299 : jM := (⟨"LinkedCoresModel", "readPar", "(I)I"⟩, 12, prog_14_method_57_code, 3, (some .int), [], jP299)
def jm300 : jM := (⟨"LinkedCoresModel", "addTo", "(III)V"⟩, 12, prog_14_method_58_code, 4, none, [], jP300)
def jm301 : jM := (⟨"LinkedCoresModel", "readIf", "(I)I"⟩, 12, prog_14_method_59_code, 6, (some .int), [], jP301)
def jm302 : jM := (⟨"LinkedCoresModel", "readAlt", "(I)I"⟩, 12, prog_14_method_60_code, 7, (some .int), [], jP302)
def jm303 : jM := (⟨"LinkedCoresModel", "readGuard", "()I"⟩, 12, prog_14_method_61_code, 11, (some .int), [], jP303)
def jm304 : jM := (⟨"LinkedCoresModel", "readNamed", "()I"⟩, 12, prog_14_method_62_code, 8, (some .int), [], jP304)
def jm305 : jM := (⟨"LinkedCoresModel", "readCall", "(I)I"⟩, 12, prog_14_method_63_code, 7, (some .int), [], jP305)
def jm306 : jM := (⟨"LinkedCoresModel", "readArgument", "(I)I"⟩, 12, prog_14_method_64_code, 6, (some .int), [], jP306)
def jm307 : jM := (⟨"LinkedCoresModel", "isTaken", "(J)Z"⟩, 12, prog_14_method_65_code, 6, (some .boolean), [], jP307)
def jm308 : jM := (⟨"LinkedCoresModel", "readProc", "()V"⟩, 12, prog_14_method_66_code, 6, none, [], jP308)
def jm309 : jM := (⟨"LinkedCoresModel", "readParameter", "(I)V"⟩, 12, prog_14_method_67_code, 5, none, [], jP309)
def jm310 : jM := (⟨"LinkedCoresModel", "readLink", "()V"⟩, 12, prog_14_method_68_code, 2, none, [], jP310)
def jm311 : jM := (⟨"LinkedCoresModel", "readPlaced", "()V"⟩, 12, prog_14_method_69_code, 3, none, [], jP311)
def jm312 : jM := (⟨"LinkedCoresModel", "readProgram", "()V"⟩, 12, prog_14_method_70_code, 3, none, [], jP312)
def jm313 : jM := (⟨"LinkedCoresModel", "reach", "(I)V"⟩, 12, prog_14_method_71_code, 2, none, [], jP313)
def jm314 : jM := (⟨"LinkedCoresModel", "isPlain", "(I)Z"⟩, 12, prog_14_method_72_code, 1, (some .boolean), [], jP314)
def jm315 : jM := (⟨"LinkedCoresModel", "bare", "(I)I"⟩, 12, prog_14_method_73_code, 3, (some .int), [], jP315)
def jm316 : jM := (⟨"LinkedCoresModel", "measureE", "(II)V"⟩, 12, prog_14_method_74_code, 3, none, [], jP316)
def jm317 : jM := (⟨"LinkedCoresModel", "measureReference", "(II)V"⟩, 12, prog_14_method_75_code, 3, none, [], jP317)
def jm318 : jM := (⟨"LinkedCoresModel", "capped", "(J)I"⟩, 12, prog_14_method_76_code, 2, (some .int), [], jP318)
def jm319 : jM := (⟨"LinkedCoresModel", "measureBranch", "(I)I"⟩, 12, prog_14_method_77_code, 3, (some .int), [], jP319)
def jm320 : jM := (⟨"LinkedCoresModel", "measure", "(II)I"⟩, 12, prog_14_method_78_code, 8, (some .int), [], jP320)
def jm321 : jM := (⟨"LinkedCoresModel", "measureAlt", "(II)I"⟩, 12, prog_14_method_79_code, 6, (some .int), [], jP321)
def jm322 : jM := (⟨"LinkedCoresModel", "measureAll", "()Z"⟩, 12, prog_14_method_80_code, 4, (some .boolean), [], jP322)
def jm323 : jM := (⟨"LinkedCoresModel", "addUse", "(IIZI)V"⟩, 12, prog_14_method_81_code, 6, none, [], jP323)
def jm324 : jM := (⟨"LinkedCoresModel", "isPlainConstant", "(I)Z"⟩, 12, prog_14_method_82_code, 2, (some .boolean), [], jP324)
def jm325 : jM := (⟨"LinkedCoresModel", "isConstant", "(I)Z"⟩, 12, prog_14_method_83_code, 3, (some .boolean), [], jP325)
def jm326 : jM := (⟨"LinkedCoresModel", "constant", "(I)I"⟩, 12, prog_14_method_84_code, 5, (some .int), [], jP326)
def jm327 : jM := (⟨"LinkedCoresModel", "useReference", "(II)V"⟩, 12, prog_14_method_85_code, 5, none, [], jP327)
def jm328 : jM := (⟨"LinkedCoresModel", "useE", "(I)V"⟩, 12, prog_14_method_86_code, 2, none, [], jP328)
def jm329 : jM := (⟨"LinkedCoresModel", "useAll", "(I)V"⟩, 12, prog_14_method_87_code, 3, none, [], jP329)
def jm330 : jM := (⟨"LinkedCoresModel", "useChoice", "(I)V"⟩, 12, prog_14_method_88_code, 2, none, [], jP330)
def jm331 : jM := (⟨"LinkedCoresModel", "useArgument", "(I)V"⟩, 12, prog_14_method_89_code, 2, none, [], jP331)
def jm332 : jM := (⟨"LinkedCoresModel", "clash", "(II)Z"⟩, 12, prog_14_method_90_code, 3, (some .boolean), [], jP332)
def jm333 : jM := (⟨"LinkedCoresModel", "wrong", "(I)V"⟩, 12, prog_14_method_91_code, 3, none, [], jP333)
def jm334 : jM := (⟨"LinkedCoresModel", "checkPar", "(I)V"⟩, 12, prog_14_method_92_code, 5, none, [], jP334)
def jm335 : jM := (⟨"LinkedCoresModel", "branchesClash", "(IIIII)Z"⟩, 12, prog_14_method_93_code, 9, (some .boolean), [], jP335)
def jm336 : jM := (⟨"LinkedCoresModel", "checkChannel", "(III)V"⟩, 12, prog_14_method_94_code, 7, none, [], jP336)
def jm337 : jM := (⟨"LinkedCoresModel", "checkCall", "(I)V"⟩, 12, prog_14_method_95_code, 6, none, [], jP337)
def jm338 : jM := (⟨"LinkedCoresModel", "meet", "(II)Z"⟩, 12, prog_14_method_96_code, 3, (some .boolean), [], jP338)
def jm339 : jM := (⟨"LinkedCoresModel", "check", "(I)V"⟩, 12, prog_14_method_97_code, 3, none, [], jP339)
def jm340 : jM := (⟨"LinkedCoresModel", "checkRow", "(I)V"⟩, 12, prog_14_method_98_code, 3, none, [], jP340)
def jm341 : jM := (⟨"LinkedCoresModel", "checkUses", "()Z"⟩, 12, prog_14_method_99_code, 3, (some .boolean), [], jP341)
def jm342 : jM := (⟨"LinkedCoresModel", "emit", "(II)V"⟩, 12, prog_14_method_100_code, 3, none, [], jP342)
def jm343 : jM := (⟨"LinkedCoresModel", "op", "(I)V"⟩, 12, prog_14_method_101_code, 2, none, [], jP343)
def jm344 : jM := (⟨"LinkedCoresModel", "label", "()I"⟩, 12, prog_14_method_102_code, 1, (some .int), [], jP344)
def jm345 : jM := (⟨"LinkedCoresModel", "set", "(I)V"⟩, 12, prog_14_method_103_code, 2, none, [], jP345)
def jm346 : jM := (⟨"LinkedCoresModel", "way", "(III)V"⟩, 12, prog_14_method_104_code, 5, none, [], jP346)
def jm347 : jM := (⟨"LinkedCoresModel", "place", "(I)V"⟩, 12, prog_14_method_105_code, 3, none, [], jP347)
def jm348 : jM := (⟨"LinkedCoresModel", "wordOf", "(I)I"⟩, 12, prog_14_method_106_code, 2, (some .int), [], jP348)
def jm349 : jM := (⟨"LinkedCoresModel", "genAddress", "(I)V"⟩, 12, prog_14_method_107_code, 4, none, [], jP349)
def jm350 : jM := (⟨"LinkedCoresModel", "genE", "(I)V"⟩, 12, prog_14_method_108_code, 3, none, [], jP350)
def jm351 : jM := (⟨"LinkedCoresModel", "genTwo", "(I)V"⟩, 12, prog_14_method_109_code, 4, none, [], jP351)
def jm352 : jM := (⟨"LinkedCoresModel", "genSign", "(I)V"⟩, 12, prog_14_method_110_code, 2, none, [], jP352)
def jm353 : jM := (⟨"LinkedCoresModel", "gen", "(I)V"⟩, 12, prog_14_method_111_code, 4, none, [], jP353)
def jm354 : jM := (⟨"LinkedCoresModel", "genStore", "(I)V"⟩, 12, prog_14_method_112_code, 3, none, [], jP354)
def jm355 : jM := (⟨"LinkedCoresModel", "genCall", "(I)V"⟩, 12, prog_14_method_113_code, 4, none, [], jP355)
def jm356 : jM := (⟨"LinkedCoresModel", "genFor", "(I)V"⟩, 12, prog_14_method_114_code, 5, none, [], jP356)
def jm357 : jM := (⟨"LinkedCoresModel", "genIf", "(I)V"⟩, 12, prog_14_method_115_code, 5, none, [], jP357)
def jm358 : jM := (⟨"LinkedCoresModel", "genPar", "(I)V"⟩, 12, prog_14_method_116_code, 11, none, [], jP358)
def jm359 : jM := (⟨"LinkedCoresModel", "genAlt", "(I)V"⟩, 12, prog_14_method_117_code, 7, none, [], jP359)
def jm360 : jM := (⟨"LinkedCoresModel", "length", "(I)I"⟩, 12, prog_14_method_118_code, 3, (some .int), [], jP360)
def jm361 : jM := (⟨"LinkedCoresModel", "findPlaces", "()V"⟩, 12, prog_14_method_119_code, 2, none, [], jP361)
def jm362 : jM := (⟨"LinkedCoresModel", "wayOf", "(I)I"⟩, 12, prog_14_method_120_code, 3, (some .int), [], jP362)
def jm363 : jM := (⟨"LinkedCoresModel", "findLengths", "()V"⟩, 12, prog_14_method_121_code, 4, none, [], jP363)
def jm364 : jM := (⟨"LinkedCoresModel", "write", "(II)V"⟩, 12, prog_14_method_122_code, 9, none, [], jP364)
def jm365 : jM := (⟨"LinkedCoresModel", "genAll", "(I)Z"⟩, 12, prog_14_method_123_code, 4, (some .boolean), [], jP365)
def jm366 : jM := (⟨"LinkedCoresModel", "compile", "()I"⟩, 12, prog_14_method_124_code, 3, (some .int), [], jP366)
def jm367 : jM := (⟨"LinkedCoresModel", "fault", "(I)I"⟩, 12, prog_14_method_125_code, 2, (some .int), [], jP367)
def jm368 : jM := (⟨"LinkedCoresModel", "reset", "()V"⟩, 12, prog_14_method_126_code, 3, none, [], jP368)
def jm369 : jM := (⟨"LinkedCoresModel", "load", "(II)I"⟩, 12, prog_14_method_127_code, 3, (some .int), [], jP369)
def jm370 : jM := (⟨"LinkedCoresModel", "store", "(III)V"⟩, 12, prog_14_method_128_code, 4, none, [], jP370)
def jm371 : jM := (⟨"LinkedCoresModel", "makeReady", "(II)V"⟩, 12, prog_14_method_129_code, 4, none, [], jP371)
def jm372 : jM := (⟨"LinkedCoresModel", "dispatch", "(I)V"⟩, 12, prog_14_method_130_code, 4, none, [], jP372)
def jm373 : jM := (⟨"LinkedCoresModel", "yield0", "(I)V"⟩, 12, prog_14_method_131_code, 4, none, [], jP373)
def jm374 : jM := (⟨"LinkedCoresModel", "wait0", "(I)V"⟩, 12, prog_14_method_132_code, 2, none, [], jP374)
def jm375 : jM := (⟨"LinkedCoresModel", "gone", "(I)V"⟩, 12, prog_14_method_133_code, 2, none, [], jP375)
def jm376 : jM := (⟨"LinkedCoresModel", "fault", "(IZ)V"⟩, 12, prog_14_method_134_code, 3, none, [], jP376)
def jm377 : jM := (⟨"LinkedCoresModel", "take", "(I)V"⟩, 12, prog_14_method_135_code, 2, none, [], jP377)
def jm378 : jM := (⟨"LinkedCoresModel", "come", "(II)V"⟩, 12, prog_14_method_136_code, 3, none, [], jP378)
def jm379 : jM := (⟨"LinkedCoresModel", "oneByte", "(I)Z"⟩, 12, prog_14_method_137_code, 5, (some .boolean), [], jP379)
def jm380 : jM := (⟨"LinkedCoresModel", "act", "(III)V"⟩, 12, prog_14_method_138_code, 5, none, [], jP380)
def jm381 : jM := (⟨"LinkedCoresModel", "two", "(II)V"⟩, 12, prog_14_method_139_code, 3, none, [], jP381)
def jm382 : jM := (⟨"LinkedCoresModel", "operate", "(II)V"⟩, 12, prog_14_method_140_code, 7, none, [], jP382)
def jm383 : jM := (⟨"LinkedCoresModel", "endBranch", "(II)V"⟩, 12, prog_14_method_141_code, 4, none, [], jP383)
def jm384 : jM := (⟨"LinkedCoresModel", "speak", "(IIII)V"⟩, 12, prog_14_method_142_code, 7, none, [], jP384)
def jm385 : jM := (⟨"LinkedCoresModel", "isLinkIn", "(I)Z"⟩, 12, prog_14_method_143_code, 2, (some .boolean), [], jP385)
def jm386 : jM := (⟨"LinkedCoresModel", "hasCome", "(I)Z"⟩, 12, prog_14_method_144_code, 2, (some .boolean), [], jP386)
def jm387 : jM := (⟨"LinkedCoresModel", "isOutside", "(I)Z"⟩, 12, prog_14_method_145_code, 2, (some .boolean), [], jP387)
def jm388 : jM := (⟨"LinkedCoresModel", "enable", "(II)V"⟩, 12, prog_14_method_146_code, 5, none, [], jP388)
def jm389 : jM := (⟨"LinkedCoresModel", "disable", "(III)V"⟩, 12, prog_14_method_147_code, 6, none, [], jP389)
def jm390 : jM := (⟨"LinkedCoresModel", "wake", "(II)V"⟩, 12, prog_14_method_148_code, 5, none, [], jP390)
def jm391 : jM := (⟨"LinkedCoresModel", "out", "(III)V"⟩, 12, prog_14_method_149_code, 5, none, [], jP391)
def jm392 : jM := (⟨"LinkedCoresModel", "inWord", "(III)V"⟩, 12, prog_14_method_150_code, 5, none, [], jP392)
def jm393 : jM := (⟨"LinkedCoresModel", "beatOf", "(I)Z"⟩, 12, prog_14_method_151_code, 5, (some .boolean), [], jP393)
def jm394 : jM := (⟨"LinkedCoresModel", "oneBeat", "()I"⟩, 12, prog_14_method_152_code, 3, (some .int), [], jP394)
def jm395 : jM := (⟨"LinkedCoresModel", "find", "()I"⟩, 12, prog_14_method_153_code, 4, (some .int), [], jP395)
def jm396 : jM := (⟨"LinkedCoresModel", "begin", "()V"⟩, 12, prog_14_method_154_code, 1, none, [], jP396)
def jm397 : jM := (⟨"LinkedCoresModel", "input", "(I)I"⟩, 12, prog_14_method_155_code, 3, (some .int), [], jP397)
def jm398 : jM := (⟨"LinkedCoresModel", "isCore", "(I)Z"⟩, 12, prog_14_method_156_code, 2, (some .boolean), [], jP398)
def jm399 : jM := (⟨"LinkedCoresModel", "run", "(II)I"⟩, 12, prog_14_method_157_code, 4, (some .int), [], jP399)
def jm400 : jM := (⟨"LinkedCoresModel", "beat", "(I)I"⟩, 12, prog_14_method_158_code, 4, (some .int), [], jP400)
def jm401 : jM := (⟨"LinkedCoresModel", "rounds", "(I)I"⟩, 12, prog_14_method_159_code, 5, (some .int), [], jP401)
def jm402 : jM := (⟨"LinkedCoresModel", "outcome", "()I"⟩, 12, prog_14_method_160_code, 1, (some .int), [], jP402)
def jm403 : jM := (⟨"LinkedCoresModel", "processor", "(II)I"⟩, 12, prog_14_method_161_code, 3, (some .int), [], jP403)
def jm404 : jM := (⟨"LinkedCoresModel", "isByte", "(II)Z"⟩, 12, prog_14_method_162_code, 3, (some .boolean), [], jP404)
def jm405 : jM := (⟨"LinkedCoresModel", "code", "(II)I"⟩, 12, prog_14_method_163_code, 3, (some .int), [], jP405)
def jm406 : jM := (⟨"LinkedCoresModel", "instruction", "(III)I"⟩, 12, prog_14_method_164_code, 10, (some .int), [], jP406)
def jm407 : jM := (⟨"LinkedCoresModel", "link", "(II)I"⟩, 12, prog_14_method_165_code, 4, (some .int), [], jP407)
def jm408 : jM := (⟨"LinkedCoresModel", "core", "(II)I"⟩, 12, prog_14_method_166_code, 4, (some .int), [], jP408)
def jm409 : jM := (⟨"LinkedCoresModel", "ready", "(II)I"⟩, 12, prog_14_method_167_code, 6, (some .int), [], jP409)
def jm410 : jM := (⟨"LinkedCoresModel", "word", "(II)I"⟩, 12, prog_14_method_168_code, 5, (some .int), [], jP410)
def jm411 : jM := (⟨"LinkedCoresModel", "output", "(I)I"⟩, 12, prog_14_method_169_code, 2, (some .int), [], jP411)
def jm412 : jM := (⟨"LinkedCoresModel", "about", "(I)I"⟩, 12, prog_14_method_170_code, 2, (some .int), [], jP412)
def jm413 : jM := (⟨"java/lang/Math", "max", "(II)I"⟩, 19, prog_20_method_65_code, 2, (some .int), [], jP413)
def jm414 : jM := (⟨"java/lang/Math", "min", "(II)I"⟩, 19, prog_20_method_69_code, 2, (some .int), [], jP414)
def jm415 : jM := (⟨"java/util/Arrays", "fill", "([II)V"⟩, 20, prog_28_method_103_code, 4, none, [], jP415)
def jMs0 : List jM := [jm0,
  jm1,
  jm2,
  jm3,
  jm4,
  jm5,
  jm6,
  jm7,
  jm8,
  jm9,
  jm10,
  jm11,
  jm12,
  jm13,
  jm14,
  jm15,
  jm16,
  jm17,
  jm18,
  jm19,
  jm20,
  jm21,
  jm22,
  jm23,
  jm24,
  jm25,
  jm26,
  jm27,
  jm28,
  jm29]
def jMs1 : List jM := [jm30,
  jm31,
  jm32,
  jm33,
  jm34,
  jm35,
  jm36,
  jm37,
  jm38,
  jm39,
  jm40,
  jm41,
  jm42,
  jm43,
  jm44,
  jm45,
  jm46,
  jm47,
  jm48,
  jm49,
  jm50,
  jm51,
  jm52,
  jm53,
  jm54,
  jm55,
  jm56,
  jm57,
  jm58,
  jm59]
def jMs2 : List jM := [jm60,
  jm61,
  jm62,
  jm63,
  jm64,
  jm65,
  jm66,
  jm67,
  jm68,
  jm69,
  jm70,
  jm71,
  jm72,
  jm73,
  jm74,
  jm75,
  jm76,
  jm77,
  jm78,
  jm79,
  jm80,
  jm81,
  jm82,
  jm83,
  jm84,
  jm85,
  jm86,
  jm87,
  jm88,
  jm89]
def jMs3 : List jM := [jm90,
  jm91,
  jm92,
  jm93,
  jm94,
  jm95,
  jm96,
  jm97,
  jm98,
  jm99,
  jm100,
  jm101,
  jm102,
  jm103,
  jm104,
  jm105,
  jm106,
  jm107,
  jm108,
  jm109,
  jm110,
  jm111,
  jm112,
  jm113,
  jm114,
  jm115,
  jm116,
  jm117,
  jm118,
  jm119]
def jMs4 : List jM := [jm120,
  jm121,
  jm122,
  jm123,
  jm124,
  jm125,
  jm126,
  jm127,
  jm128,
  jm129,
  jm130,
  jm131,
  jm132,
  jm133,
  jm134,
  jm135,
  jm136,
  jm137,
  jm138,
  jm139,
  jm140,
  jm141,
  jm142,
  jm143,
  jm144,
  jm145,
  jm146,
  jm147,
  jm148,
  jm149]
def jMs5 : List jM := [jm150,
  jm151,
  jm152,
  jm153,
  jm154,
  jm155,
  jm156,
  jm157,
  jm158,
  jm159,
  jm160,
  jm161,
  jm162,
  jm163,
  jm164,
  jm165,
  jm166,
  jm167,
  jm168,
  jm169,
  jm170,
  jm171,
  jm172,
  jm173,
  jm174,
  jm175,
  jm176,
  jm177,
  jm178,
  jm179]
def jMs6 : List jM := [jm180,
  jm181,
  jm182,
  jm183,
  jm184,
  jm185,
  jm186,
  jm187,
  jm188,
  jm189,
  jm190,
  jm191,
  jm192,
  jm193,
  jm194,
  jm195,
  jm196,
  jm197,
  jm198,
  jm199,
  jm200,
  jm201,
  jm202,
  jm203,
  jm204,
  jm205,
  jm206,
  jm207,
  jm208,
  jm209]
def jMs7 : List jM := [jm210,
  jm211,
  jm212,
  jm213,
  jm214,
  jm215,
  jm216,
  jm217,
  jm218,
  jm219,
  jm220,
  jm221,
  jm222,
  jm223,
  jm224,
  jm225,
  jm226,
  jm227,
  jm228,
  jm229,
  jm230,
  jm231,
  jm232,
  jm233,
  jm234,
  jm235,
  jm236,
  jm237,
  jm238,
  jm239]
def jMs8 : List jM := [jm240,
  jm241,
  jm242,
  jm243,
  jm244,
  jm245,
  jm246,
  jm247,
  jm248,
  jm249,
  jm250,
  jm251,
  jm252,
  jm253,
  jm254,
  jm255,
  jm256,
  jm257,
  jm258,
  jm259,
  jm260,
  jm261,
  jm262,
  jm263,
  jm264,
  jm265,
  jm266,
  jm267,
  jm268,
  jm269]
def jMs9 : List jM := [jm270,
  jm271,
  jm272,
  jm273,
  jm274,
  jm275,
  jm276,
  jm277,
  jm278,
  jm279,
  jm280,
  jm281,
  jm282,
  jm283,
  jm284,
  jm285,
  jm286,
  jm287,
  jm288,
  jm289,
  jm290,
  jm291,
  jm292,
  jm293,
  jm294,
  jm295,
  jm296,
  jm297,
  jm298,
  jm299]
def jMs10 : List jM := [jm300,
  jm301,
  jm302,
  jm303,
  jm304,
  jm305,
  jm306,
  jm307,
  jm308,
  jm309,
  jm310,
  jm311,
  jm312,
  jm313,
  jm314,
  jm315,
  jm316,
  jm317,
  jm318,
  jm319,
  jm320,
  jm321,
  jm322,
  jm323,
  jm324,
  jm325,
  jm326,
  jm327,
  jm328,
  jm329]
def jMs11 : List jM := [jm330,
  jm331,
  jm332,
  jm333,
  jm334,
  jm335,
  jm336,
  jm337,
  jm338,
  jm339,
  jm340,
  jm341,
  jm342,
  jm343,
  jm344,
  jm345,
  jm346,
  jm347,
  jm348,
  jm349,
  jm350,
  jm351,
  jm352,
  jm353,
  jm354,
  jm355,
  jm356,
  jm357,
  jm358,
  jm359]
def jMs12 : List jM := [jm360,
  jm361,
  jm362,
  jm363,
  jm364,
  jm365,
  jm366,
  jm367,
  jm368,
  jm369,
  jm370,
  jm371,
  jm372,
  jm373,
  jm374,
  jm375,
  jm376,
  jm377,
  jm378,
  jm379,
  jm380,
  jm381,
  jm382,
  jm383,
  jm384,
  jm385,
  jm386,
  jm387,
  jm388,
  jm389]
def jMs13 : List jM := [jm390,
  jm391,
  jm392,
  jm393,
  jm394,
  jm395,
  jm396,
  jm397,
  jm398,
  jm399,
  jm400,
  jm401,
  jm402,
  jm403,
  jm404,
  jm405,
  jm406,
  jm407,
  jm408,
  jm409,
  jm410,
  jm411,
  jm412,
  jm413,
  jm414,
  jm415]
/-- the methods: name, owner, code, locals, answer, handlers, instructions -/
def jMs : List jM := jMs0 ++ (jMs1 ++ (jMs2 ++ (jMs3 ++ (jMs4 ++ (jMs5 ++ (jMs6 ++ (jMs7 ++ (jMs8 ++ (jMs9 ++ (jMs10 ++ (jMs11 ++ (jMs12 ++ (jMs13)))))))))))))
def jDec (e : jM) : Prop := ∀ q ∈ e.2.2.2.2.2.2, decode e.2.2.1 q.1 = .ok q.2
theorem jMs0_ok : ∀ e ∈ jMs0, jDec e := List.forall_mem_cons.mpr ⟨jD0, List.forall_mem_cons.mpr ⟨jD1, List.forall_mem_cons.mpr ⟨jD2, List.forall_mem_cons.mpr ⟨jD3, List.forall_mem_cons.mpr ⟨jD4, List.forall_mem_cons.mpr ⟨jD5, List.forall_mem_cons.mpr ⟨jD6, List.forall_mem_cons.mpr ⟨jD7, List.forall_mem_cons.mpr ⟨jD8, List.forall_mem_cons.mpr ⟨jD9, List.forall_mem_cons.mpr ⟨jD10, List.forall_mem_cons.mpr ⟨jD11, List.forall_mem_cons.mpr ⟨jD12, List.forall_mem_cons.mpr ⟨jD13, List.forall_mem_cons.mpr ⟨jD14, List.forall_mem_cons.mpr ⟨jD15, List.forall_mem_cons.mpr ⟨jD16, List.forall_mem_cons.mpr ⟨jD17, List.forall_mem_cons.mpr ⟨jD18, List.forall_mem_cons.mpr ⟨jD19, List.forall_mem_cons.mpr ⟨jD20, List.forall_mem_cons.mpr ⟨jD21, List.forall_mem_cons.mpr ⟨jD22, List.forall_mem_cons.mpr ⟨jD23, List.forall_mem_cons.mpr ⟨jD24, List.forall_mem_cons.mpr ⟨jD25, List.forall_mem_cons.mpr ⟨jD26, List.forall_mem_cons.mpr ⟨jD27, List.forall_mem_cons.mpr ⟨jD28, List.forall_mem_cons.mpr ⟨jD29, fun _ h => absurd h List.not_mem_nil⟩⟩⟩⟩⟩⟩⟩⟩⟩⟩⟩⟩⟩⟩⟩⟩⟩⟩⟩⟩⟩⟩⟩⟩⟩⟩⟩⟩⟩⟩
theorem jMs1_ok : ∀ e ∈ jMs1, jDec e := List.forall_mem_cons.mpr ⟨jD30, List.forall_mem_cons.mpr ⟨jD31, List.forall_mem_cons.mpr ⟨jD32, List.forall_mem_cons.mpr ⟨jD33, List.forall_mem_cons.mpr ⟨jD34, List.forall_mem_cons.mpr ⟨jD35, List.forall_mem_cons.mpr ⟨jD36, List.forall_mem_cons.mpr ⟨jD37, List.forall_mem_cons.mpr ⟨jD38, List.forall_mem_cons.mpr ⟨jD39, List.forall_mem_cons.mpr ⟨jD40, List.forall_mem_cons.mpr ⟨jD41, List.forall_mem_cons.mpr ⟨jD42, List.forall_mem_cons.mpr ⟨jD43, List.forall_mem_cons.mpr ⟨jD44, List.forall_mem_cons.mpr ⟨jD45, List.forall_mem_cons.mpr ⟨jD46, List.forall_mem_cons.mpr ⟨jD47, List.forall_mem_cons.mpr ⟨jD48, List.forall_mem_cons.mpr ⟨jD49, List.forall_mem_cons.mpr ⟨jD50, List.forall_mem_cons.mpr ⟨jD51, List.forall_mem_cons.mpr ⟨jD52, List.forall_mem_cons.mpr ⟨jD53, List.forall_mem_cons.mpr ⟨jD54, List.forall_mem_cons.mpr ⟨jD55, List.forall_mem_cons.mpr ⟨jD56, List.forall_mem_cons.mpr ⟨jD57, List.forall_mem_cons.mpr ⟨jD58, List.forall_mem_cons.mpr ⟨jD59, fun _ h => absurd h List.not_mem_nil⟩⟩⟩⟩⟩⟩⟩⟩⟩⟩⟩⟩⟩⟩⟩⟩⟩⟩⟩⟩⟩⟩⟩⟩⟩⟩⟩⟩⟩⟩
theorem jMs2_ok : ∀ e ∈ jMs2, jDec e := List.forall_mem_cons.mpr ⟨jD60, List.forall_mem_cons.mpr ⟨jD61, List.forall_mem_cons.mpr ⟨jD62, List.forall_mem_cons.mpr ⟨jD63, List.forall_mem_cons.mpr ⟨jD64, List.forall_mem_cons.mpr ⟨jD65, List.forall_mem_cons.mpr ⟨jD66, List.forall_mem_cons.mpr ⟨jD67, List.forall_mem_cons.mpr ⟨jD68, List.forall_mem_cons.mpr ⟨jD69, List.forall_mem_cons.mpr ⟨jD70, List.forall_mem_cons.mpr ⟨jD71, List.forall_mem_cons.mpr ⟨jD72, List.forall_mem_cons.mpr ⟨jD73, List.forall_mem_cons.mpr ⟨jD74, List.forall_mem_cons.mpr ⟨jD75, List.forall_mem_cons.mpr ⟨jD76, List.forall_mem_cons.mpr ⟨jD77, List.forall_mem_cons.mpr ⟨jD78, List.forall_mem_cons.mpr ⟨jD79, List.forall_mem_cons.mpr ⟨jD80, List.forall_mem_cons.mpr ⟨jD81, List.forall_mem_cons.mpr ⟨jD82, List.forall_mem_cons.mpr ⟨jD83, List.forall_mem_cons.mpr ⟨jD84, List.forall_mem_cons.mpr ⟨jD85, List.forall_mem_cons.mpr ⟨jD86, List.forall_mem_cons.mpr ⟨jD87, List.forall_mem_cons.mpr ⟨jD88, List.forall_mem_cons.mpr ⟨jD89, fun _ h => absurd h List.not_mem_nil⟩⟩⟩⟩⟩⟩⟩⟩⟩⟩⟩⟩⟩⟩⟩⟩⟩⟩⟩⟩⟩⟩⟩⟩⟩⟩⟩⟩⟩⟩
theorem jMs3_ok : ∀ e ∈ jMs3, jDec e := List.forall_mem_cons.mpr ⟨jD90, List.forall_mem_cons.mpr ⟨jD91, List.forall_mem_cons.mpr ⟨jD92, List.forall_mem_cons.mpr ⟨jD93, List.forall_mem_cons.mpr ⟨jD94, List.forall_mem_cons.mpr ⟨jD95, List.forall_mem_cons.mpr ⟨jD96, List.forall_mem_cons.mpr ⟨jD97, List.forall_mem_cons.mpr ⟨jD98, List.forall_mem_cons.mpr ⟨jD99, List.forall_mem_cons.mpr ⟨jD100, List.forall_mem_cons.mpr ⟨jD101, List.forall_mem_cons.mpr ⟨jD102, List.forall_mem_cons.mpr ⟨jD103, List.forall_mem_cons.mpr ⟨jD104, List.forall_mem_cons.mpr ⟨jD105, List.forall_mem_cons.mpr ⟨jD106, List.forall_mem_cons.mpr ⟨jD107, List.forall_mem_cons.mpr ⟨jD108, List.forall_mem_cons.mpr ⟨jD109, List.forall_mem_cons.mpr ⟨jD110, List.forall_mem_cons.mpr ⟨jD111, List.forall_mem_cons.mpr ⟨jD112, List.forall_mem_cons.mpr ⟨jD113, List.forall_mem_cons.mpr ⟨jD114, List.forall_mem_cons.mpr ⟨jD115, List.forall_mem_cons.mpr ⟨jD116, List.forall_mem_cons.mpr ⟨jD117, List.forall_mem_cons.mpr ⟨jD118, List.forall_mem_cons.mpr ⟨jD119, fun _ h => absurd h List.not_mem_nil⟩⟩⟩⟩⟩⟩⟩⟩⟩⟩⟩⟩⟩⟩⟩⟩⟩⟩⟩⟩⟩⟩⟩⟩⟩⟩⟩⟩⟩⟩
theorem jMs4_ok : ∀ e ∈ jMs4, jDec e := List.forall_mem_cons.mpr ⟨jD120, List.forall_mem_cons.mpr ⟨jD121, List.forall_mem_cons.mpr ⟨jD122, List.forall_mem_cons.mpr ⟨jD123, List.forall_mem_cons.mpr ⟨jD124, List.forall_mem_cons.mpr ⟨jD125, List.forall_mem_cons.mpr ⟨jD126, List.forall_mem_cons.mpr ⟨jD127, List.forall_mem_cons.mpr ⟨jD128, List.forall_mem_cons.mpr ⟨jD129, List.forall_mem_cons.mpr ⟨jD130, List.forall_mem_cons.mpr ⟨jD131, List.forall_mem_cons.mpr ⟨jD132, List.forall_mem_cons.mpr ⟨jD133, List.forall_mem_cons.mpr ⟨jD134, List.forall_mem_cons.mpr ⟨jD135, List.forall_mem_cons.mpr ⟨jD136, List.forall_mem_cons.mpr ⟨jD137, List.forall_mem_cons.mpr ⟨jD138, List.forall_mem_cons.mpr ⟨jD139, List.forall_mem_cons.mpr ⟨jD140, List.forall_mem_cons.mpr ⟨jD141, List.forall_mem_cons.mpr ⟨jD142, List.forall_mem_cons.mpr ⟨jD143, List.forall_mem_cons.mpr ⟨jD144, List.forall_mem_cons.mpr ⟨jD145, List.forall_mem_cons.mpr ⟨jD146, List.forall_mem_cons.mpr ⟨jD147, List.forall_mem_cons.mpr ⟨jD148, List.forall_mem_cons.mpr ⟨jD149, fun _ h => absurd h List.not_mem_nil⟩⟩⟩⟩⟩⟩⟩⟩⟩⟩⟩⟩⟩⟩⟩⟩⟩⟩⟩⟩⟩⟩⟩⟩⟩⟩⟩⟩⟩⟩
theorem jMs5_ok : ∀ e ∈ jMs5, jDec e := List.forall_mem_cons.mpr ⟨jD150, List.forall_mem_cons.mpr ⟨jD151, List.forall_mem_cons.mpr ⟨jD152, List.forall_mem_cons.mpr ⟨jD153, List.forall_mem_cons.mpr ⟨jD154, List.forall_mem_cons.mpr ⟨jD155, List.forall_mem_cons.mpr ⟨jD156, List.forall_mem_cons.mpr ⟨jD157, List.forall_mem_cons.mpr ⟨jD158, List.forall_mem_cons.mpr ⟨jD159, List.forall_mem_cons.mpr ⟨jD160, List.forall_mem_cons.mpr ⟨jD161, List.forall_mem_cons.mpr ⟨jD162, List.forall_mem_cons.mpr ⟨jD163, List.forall_mem_cons.mpr ⟨jD164, List.forall_mem_cons.mpr ⟨jD165, List.forall_mem_cons.mpr ⟨jD166, List.forall_mem_cons.mpr ⟨jD167, List.forall_mem_cons.mpr ⟨jD168, List.forall_mem_cons.mpr ⟨jD169, List.forall_mem_cons.mpr ⟨jD170, List.forall_mem_cons.mpr ⟨jD171, List.forall_mem_cons.mpr ⟨jD172, List.forall_mem_cons.mpr ⟨jD173, List.forall_mem_cons.mpr ⟨jD174, List.forall_mem_cons.mpr ⟨jD175, List.forall_mem_cons.mpr ⟨jD176, List.forall_mem_cons.mpr ⟨jD177, List.forall_mem_cons.mpr ⟨jD178, List.forall_mem_cons.mpr ⟨jD179, fun _ h => absurd h List.not_mem_nil⟩⟩⟩⟩⟩⟩⟩⟩⟩⟩⟩⟩⟩⟩⟩⟩⟩⟩⟩⟩⟩⟩⟩⟩⟩⟩⟩⟩⟩⟩
theorem jMs6_ok : ∀ e ∈ jMs6, jDec e := List.forall_mem_cons.mpr ⟨jD180, List.forall_mem_cons.mpr ⟨jD181, List.forall_mem_cons.mpr ⟨jD182, List.forall_mem_cons.mpr ⟨jD183, List.forall_mem_cons.mpr ⟨jD184, List.forall_mem_cons.mpr ⟨jD185, List.forall_mem_cons.mpr ⟨jD186, List.forall_mem_cons.mpr ⟨jD187, List.forall_mem_cons.mpr ⟨jD188, List.forall_mem_cons.mpr ⟨jD189, List.forall_mem_cons.mpr ⟨jD190, List.forall_mem_cons.mpr ⟨jD191, List.forall_mem_cons.mpr ⟨jD192, List.forall_mem_cons.mpr ⟨jD193, List.forall_mem_cons.mpr ⟨jD194, List.forall_mem_cons.mpr ⟨jD195, List.forall_mem_cons.mpr ⟨jD196, List.forall_mem_cons.mpr ⟨jD197, List.forall_mem_cons.mpr ⟨jD198, List.forall_mem_cons.mpr ⟨jD199, List.forall_mem_cons.mpr ⟨jD200, List.forall_mem_cons.mpr ⟨jD201, List.forall_mem_cons.mpr ⟨jD202, List.forall_mem_cons.mpr ⟨jD203, List.forall_mem_cons.mpr ⟨jD204, List.forall_mem_cons.mpr ⟨jD205, List.forall_mem_cons.mpr ⟨jD206, List.forall_mem_cons.mpr ⟨jD207, List.forall_mem_cons.mpr ⟨jD208, List.forall_mem_cons.mpr ⟨jD209, fun _ h => absurd h List.not_mem_nil⟩⟩⟩⟩⟩⟩⟩⟩⟩⟩⟩⟩⟩⟩⟩⟩⟩⟩⟩⟩⟩⟩⟩⟩⟩⟩⟩⟩⟩⟩
theorem jMs7_ok : ∀ e ∈ jMs7, jDec e := List.forall_mem_cons.mpr ⟨jD210, List.forall_mem_cons.mpr ⟨jD211, List.forall_mem_cons.mpr ⟨jD212, List.forall_mem_cons.mpr ⟨jD213, List.forall_mem_cons.mpr ⟨jD214, List.forall_mem_cons.mpr ⟨jD215, List.forall_mem_cons.mpr ⟨jD216, List.forall_mem_cons.mpr ⟨jD217, List.forall_mem_cons.mpr ⟨jD218, List.forall_mem_cons.mpr ⟨jD219, List.forall_mem_cons.mpr ⟨jD220, List.forall_mem_cons.mpr ⟨jD221, List.forall_mem_cons.mpr ⟨jD222, List.forall_mem_cons.mpr ⟨jD223, List.forall_mem_cons.mpr ⟨jD224, List.forall_mem_cons.mpr ⟨jD225, List.forall_mem_cons.mpr ⟨jD226, List.forall_mem_cons.mpr ⟨jD227, List.forall_mem_cons.mpr ⟨jD228, List.forall_mem_cons.mpr ⟨jD229, List.forall_mem_cons.mpr ⟨jD230, List.forall_mem_cons.mpr ⟨jD231, List.forall_mem_cons.mpr ⟨jD232, List.forall_mem_cons.mpr ⟨jD233, List.forall_mem_cons.mpr ⟨jD234, List.forall_mem_cons.mpr ⟨jD235, List.forall_mem_cons.mpr ⟨jD236, List.forall_mem_cons.mpr ⟨jD237, List.forall_mem_cons.mpr ⟨jD238, List.forall_mem_cons.mpr ⟨jD239, fun _ h => absurd h List.not_mem_nil⟩⟩⟩⟩⟩⟩⟩⟩⟩⟩⟩⟩⟩⟩⟩⟩⟩⟩⟩⟩⟩⟩⟩⟩⟩⟩⟩⟩⟩⟩
theorem jMs8_ok : ∀ e ∈ jMs8, jDec e := List.forall_mem_cons.mpr ⟨jD240, List.forall_mem_cons.mpr ⟨jD241, List.forall_mem_cons.mpr ⟨jD242, List.forall_mem_cons.mpr ⟨jD243, List.forall_mem_cons.mpr ⟨jD244, List.forall_mem_cons.mpr ⟨jD245, List.forall_mem_cons.mpr ⟨jD246, List.forall_mem_cons.mpr ⟨jD247, List.forall_mem_cons.mpr ⟨jD248, List.forall_mem_cons.mpr ⟨jD249, List.forall_mem_cons.mpr ⟨jD250, List.forall_mem_cons.mpr ⟨jD251, List.forall_mem_cons.mpr ⟨jD252, List.forall_mem_cons.mpr ⟨jD253, List.forall_mem_cons.mpr ⟨jD254, List.forall_mem_cons.mpr ⟨jD255, List.forall_mem_cons.mpr ⟨jD256, List.forall_mem_cons.mpr ⟨jD257, List.forall_mem_cons.mpr ⟨jD258, List.forall_mem_cons.mpr ⟨jD259, List.forall_mem_cons.mpr ⟨jD260, List.forall_mem_cons.mpr ⟨jD261, List.forall_mem_cons.mpr ⟨jD262, List.forall_mem_cons.mpr ⟨jD263, List.forall_mem_cons.mpr ⟨jD264, List.forall_mem_cons.mpr ⟨jD265, List.forall_mem_cons.mpr ⟨jD266, List.forall_mem_cons.mpr ⟨jD267, List.forall_mem_cons.mpr ⟨jD268, List.forall_mem_cons.mpr ⟨jD269, fun _ h => absurd h List.not_mem_nil⟩⟩⟩⟩⟩⟩⟩⟩⟩⟩⟩⟩⟩⟩⟩⟩⟩⟩⟩⟩⟩⟩⟩⟩⟩⟩⟩⟩⟩⟩
theorem jMs9_ok : ∀ e ∈ jMs9, jDec e := List.forall_mem_cons.mpr ⟨jD270, List.forall_mem_cons.mpr ⟨jD271, List.forall_mem_cons.mpr ⟨jD272, List.forall_mem_cons.mpr ⟨jD273, List.forall_mem_cons.mpr ⟨jD274, List.forall_mem_cons.mpr ⟨jD275, List.forall_mem_cons.mpr ⟨jD276, List.forall_mem_cons.mpr ⟨jD277, List.forall_mem_cons.mpr ⟨jD278, List.forall_mem_cons.mpr ⟨jD279, List.forall_mem_cons.mpr ⟨jD280, List.forall_mem_cons.mpr ⟨jD281, List.forall_mem_cons.mpr ⟨jD282, List.forall_mem_cons.mpr ⟨jD283, List.forall_mem_cons.mpr ⟨jD284, List.forall_mem_cons.mpr ⟨jD285, List.forall_mem_cons.mpr ⟨jD286, List.forall_mem_cons.mpr ⟨jD287, List.forall_mem_cons.mpr ⟨jD288, List.forall_mem_cons.mpr ⟨jD289, List.forall_mem_cons.mpr ⟨jD290, List.forall_mem_cons.mpr ⟨jD291, List.forall_mem_cons.mpr ⟨jD292, List.forall_mem_cons.mpr ⟨jD293, List.forall_mem_cons.mpr ⟨jD294, List.forall_mem_cons.mpr ⟨jD295, List.forall_mem_cons.mpr ⟨jD296, List.forall_mem_cons.mpr ⟨jD297, List.forall_mem_cons.mpr ⟨jD298, List.forall_mem_cons.mpr ⟨jD299, fun _ h => absurd h List.not_mem_nil⟩⟩⟩⟩⟩⟩⟩⟩⟩⟩⟩⟩⟩⟩⟩⟩⟩⟩⟩⟩⟩⟩⟩⟩⟩⟩⟩⟩⟩⟩
theorem jMs10_ok : ∀ e ∈ jMs10, jDec e := List.forall_mem_cons.mpr ⟨jD300, List.forall_mem_cons.mpr ⟨jD301, List.forall_mem_cons.mpr ⟨jD302, List.forall_mem_cons.mpr ⟨jD303, List.forall_mem_cons.mpr ⟨jD304, List.forall_mem_cons.mpr ⟨jD305, List.forall_mem_cons.mpr ⟨jD306, List.forall_mem_cons.mpr ⟨jD307, List.forall_mem_cons.mpr ⟨jD308, List.forall_mem_cons.mpr ⟨jD309, List.forall_mem_cons.mpr ⟨jD310, List.forall_mem_cons.mpr ⟨jD311, List.forall_mem_cons.mpr ⟨jD312, List.forall_mem_cons.mpr ⟨jD313, List.forall_mem_cons.mpr ⟨jD314, List.forall_mem_cons.mpr ⟨jD315, List.forall_mem_cons.mpr ⟨jD316, List.forall_mem_cons.mpr ⟨jD317, List.forall_mem_cons.mpr ⟨jD318, List.forall_mem_cons.mpr ⟨jD319, List.forall_mem_cons.mpr ⟨jD320, List.forall_mem_cons.mpr ⟨jD321, List.forall_mem_cons.mpr ⟨jD322, List.forall_mem_cons.mpr ⟨jD323, List.forall_mem_cons.mpr ⟨jD324, List.forall_mem_cons.mpr ⟨jD325, List.forall_mem_cons.mpr ⟨jD326, List.forall_mem_cons.mpr ⟨jD327, List.forall_mem_cons.mpr ⟨jD328, List.forall_mem_cons.mpr ⟨jD329, fun _ h => absurd h List.not_mem_nil⟩⟩⟩⟩⟩⟩⟩⟩⟩⟩⟩⟩⟩⟩⟩⟩⟩⟩⟩⟩⟩⟩⟩⟩⟩⟩⟩⟩⟩⟩
theorem jMs11_ok : ∀ e ∈ jMs11, jDec e := List.forall_mem_cons.mpr ⟨jD330, List.forall_mem_cons.mpr ⟨jD331, List.forall_mem_cons.mpr ⟨jD332, List.forall_mem_cons.mpr ⟨jD333, List.forall_mem_cons.mpr ⟨jD334, List.forall_mem_cons.mpr ⟨jD335, List.forall_mem_cons.mpr ⟨jD336, List.forall_mem_cons.mpr ⟨jD337, List.forall_mem_cons.mpr ⟨jD338, List.forall_mem_cons.mpr ⟨jD339, List.forall_mem_cons.mpr ⟨jD340, List.forall_mem_cons.mpr ⟨jD341, List.forall_mem_cons.mpr ⟨jD342, List.forall_mem_cons.mpr ⟨jD343, List.forall_mem_cons.mpr ⟨jD344, List.forall_mem_cons.mpr ⟨jD345, List.forall_mem_cons.mpr ⟨jD346, List.forall_mem_cons.mpr ⟨jD347, List.forall_mem_cons.mpr ⟨jD348, List.forall_mem_cons.mpr ⟨jD349, List.forall_mem_cons.mpr ⟨jD350, List.forall_mem_cons.mpr ⟨jD351, List.forall_mem_cons.mpr ⟨jD352, List.forall_mem_cons.mpr ⟨jD353, List.forall_mem_cons.mpr ⟨jD354, List.forall_mem_cons.mpr ⟨jD355, List.forall_mem_cons.mpr ⟨jD356, List.forall_mem_cons.mpr ⟨jD357, List.forall_mem_cons.mpr ⟨jD358, List.forall_mem_cons.mpr ⟨jD359, fun _ h => absurd h List.not_mem_nil⟩⟩⟩⟩⟩⟩⟩⟩⟩⟩⟩⟩⟩⟩⟩⟩⟩⟩⟩⟩⟩⟩⟩⟩⟩⟩⟩⟩⟩⟩
theorem jMs12_ok : ∀ e ∈ jMs12, jDec e := List.forall_mem_cons.mpr ⟨jD360, List.forall_mem_cons.mpr ⟨jD361, List.forall_mem_cons.mpr ⟨jD362, List.forall_mem_cons.mpr ⟨jD363, List.forall_mem_cons.mpr ⟨jD364, List.forall_mem_cons.mpr ⟨jD365, List.forall_mem_cons.mpr ⟨jD366, List.forall_mem_cons.mpr ⟨jD367, List.forall_mem_cons.mpr ⟨jD368, List.forall_mem_cons.mpr ⟨jD369, List.forall_mem_cons.mpr ⟨jD370, List.forall_mem_cons.mpr ⟨jD371, List.forall_mem_cons.mpr ⟨jD372, List.forall_mem_cons.mpr ⟨jD373, List.forall_mem_cons.mpr ⟨jD374, List.forall_mem_cons.mpr ⟨jD375, List.forall_mem_cons.mpr ⟨jD376, List.forall_mem_cons.mpr ⟨jD377, List.forall_mem_cons.mpr ⟨jD378, List.forall_mem_cons.mpr ⟨jD379, List.forall_mem_cons.mpr ⟨jD380, List.forall_mem_cons.mpr ⟨jD381, List.forall_mem_cons.mpr ⟨jD382, List.forall_mem_cons.mpr ⟨jD383, List.forall_mem_cons.mpr ⟨jD384, List.forall_mem_cons.mpr ⟨jD385, List.forall_mem_cons.mpr ⟨jD386, List.forall_mem_cons.mpr ⟨jD387, List.forall_mem_cons.mpr ⟨jD388, List.forall_mem_cons.mpr ⟨jD389, fun _ h => absurd h List.not_mem_nil⟩⟩⟩⟩⟩⟩⟩⟩⟩⟩⟩⟩⟩⟩⟩⟩⟩⟩⟩⟩⟩⟩⟩⟩⟩⟩⟩⟩⟩⟩
theorem jMs13_ok : ∀ e ∈ jMs13, jDec e := List.forall_mem_cons.mpr ⟨jD390, List.forall_mem_cons.mpr ⟨jD391, List.forall_mem_cons.mpr ⟨jD392, List.forall_mem_cons.mpr ⟨jD393, List.forall_mem_cons.mpr ⟨jD394, List.forall_mem_cons.mpr ⟨jD395, List.forall_mem_cons.mpr ⟨jD396, List.forall_mem_cons.mpr ⟨jD397, List.forall_mem_cons.mpr ⟨jD398, List.forall_mem_cons.mpr ⟨jD399, List.forall_mem_cons.mpr ⟨jD400, List.forall_mem_cons.mpr ⟨jD401, List.forall_mem_cons.mpr ⟨jD402, List.forall_mem_cons.mpr ⟨jD403, List.forall_mem_cons.mpr ⟨jD404, List.forall_mem_cons.mpr ⟨jD405, List.forall_mem_cons.mpr ⟨jD406, List.forall_mem_cons.mpr ⟨jD407, List.forall_mem_cons.mpr ⟨jD408, List.forall_mem_cons.mpr ⟨jD409, List.forall_mem_cons.mpr ⟨jD410, List.forall_mem_cons.mpr ⟨jD411, List.forall_mem_cons.mpr ⟨jD412, List.forall_mem_cons.mpr ⟨jD413, List.forall_mem_cons.mpr ⟨jD414, List.forall_mem_cons.mpr ⟨jD415, fun _ h => absurd h List.not_mem_nil⟩⟩⟩⟩⟩⟩⟩⟩⟩⟩⟩⟩⟩⟩⟩⟩⟩⟩⟩⟩⟩⟩⟩⟩⟩⟩
theorem jMs_ok : ∀ e ∈ jMs, jDec e := fun e h => by
  simp only [jMs, List.mem_append] at h
  rcases h with h | h | h | h | h | h | h | h | h | h | h | h | h | h
  · exact jMs0_ok e h
  · exact jMs1_ok e h
  · exact jMs2_ok e h
  · exact jMs3_ok e h
  · exact jMs4_ok e h
  · exact jMs5_ok e h
  · exact jMs6_ok e h
  · exact jMs7_ok e h
  · exact jMs8_ok e h
  · exact jMs9_ok e h
  · exact jMs10_ok e h
  · exact jMs11_ok e h
  · exact jMs12_ok e h
  · exact jMs13_ok e h
