/-- LinkedCoresLaw.put(LLinkedCores;I[J)I -/
def jP0 : List (Nat × Instr × Nat) := [(0, .aload_n 2, 1), (1, .iconst 0, 1), (2, .aload_n 0, 1), (3, .iload_n 1, 1), (4, .invokevirtual 7, 3), (7, .i2l, 1), (8, .lastore, 1), (9, .goto 9, 3), (12, .astore_n 3, 1), (13, .iconst 1, 1), (14, .ireturn, 1), (15, .astore_n 3, 1), (16, .iconst 2, 1), (17, .ireturn, 1), (18, .iconst 0, 1), (19, .ireturn, 1)]
set_option maxRecDepth 100000 in
theorem jD0 : ∀ q ∈ jP0, decode method_3_code q.1 = .ok q.2 := by decide +kernel
/-- LinkedCoresLaw.end(LLinkedCores;I)I -/
def jP1 : List (Nat × Instr × Nat) := [(0, .aload_n 0, 1), (1, .iload_n 1, 1), (2, .invokevirtual 17, 3), (5, .goto 6, 3), (8, .astore_n 2, 1), (9, .iconst 1, 1), (10, .ireturn, 1), (11, .iconst 0, 1), (12, .ireturn, 1)]
set_option maxRecDepth 100000 in
theorem jD1 : ∀ q ∈ jP1, decode method_4_code q.1 = .ok q.2 := by decide +kernel
/-- LinkedCoresLaw.fault(LLinkedCores;I[J)I -/
def jP2 : List (Nat × Instr × Nat) := [(0, .aload_n 2, 1), (1, .iconst 0, 1), (2, .aload_n 0, 1), (3, .iload_n 1, 1), (4, .invokevirtual 21, 3), (7, .i2l, 1), (8, .lastore, 1), (9, .goto 6, 3), (12, .astore_n 3, 1), (13, .iconst 1, 1), (14, .ireturn, 1), (15, .iconst 0, 1), (16, .ireturn, 1)]
set_option maxRecDepth 100000 in
theorem jD2 : ∀ q ∈ jP2, decode method_5_code q.1 = .ok q.2 := by decide +kernel
/-- LinkedCoresLaw.processor(LLinkedCores;II[J)I -/
def jP3 : List (Nat × Instr × Nat) := [(0, .aload_n 3, 1), (1, .iconst 0, 1), (2, .aload_n 0, 1), (3, .iload_n 1, 1), (4, .iload_n 2, 1), (5, .invokevirtual 24, 3), (8, .i2l, 1), (9, .lastore, 1), (10, .goto 15, 3), (13, .astore 4, 2), (15, .iconst 1, 1), (16, .ireturn, 1), (17, .astore 4, 2), (19, .iconst 2, 1), (20, .ireturn, 1), (21, .astore 4, 2), (23, .iconst 3, 1), (24, .ireturn, 1), (25, .iconst 0, 1), (26, .ireturn, 1)]
set_option maxRecDepth 100000 in
theorem jD3 : ∀ q ∈ jP3, decode method_6_code q.1 = .ok q.2 := by decide +kernel
/-- LinkedCoresLaw.code(LLinkedCores;II[J)I -/
def jP4 : List (Nat × Instr × Nat) := [(0, .aload_n 3, 1), (1, .iconst 0, 1), (2, .aload_n 0, 1), (3, .iload_n 1, 1), (4, .iload_n 2, 1), (5, .invokevirtual 32, 3), (8, .i2l, 1), (9, .lastore, 1), (10, .goto 15, 3), (13, .astore 4, 2), (15, .iconst 1, 1), (16, .ireturn, 1), (17, .astore 4, 2), (19, .iconst 2, 1), (20, .ireturn, 1), (21, .astore 4, 2), (23, .iconst 3, 1), (24, .ireturn, 1), (25, .iconst 0, 1), (26, .ireturn, 1)]
set_option maxRecDepth 100000 in
theorem jD4 : ∀ q ∈ jP4, decode method_7_code q.1 = .ok q.2 := by decide +kernel
/-- LinkedCoresLaw.instruction(LLinkedCores;III[J)I -/
def jP5 : List (Nat × Instr × Nat) := [(0, .aload 4, 2), (2, .iconst 0, 1), (3, .aload_n 0, 1), (4, .iload_n 1, 1), (5, .iload_n 2, 1), (6, .iload_n 3, 1), (7, .invokevirtual 37, 3), (10, .i2l, 1), (11, .lastore, 1), (12, .goto 19, 3), (15, .astore 5, 2), (17, .iconst 1, 1), (18, .ireturn, 1), (19, .astore 5, 2), (21, .iconst 2, 1), (22, .ireturn, 1), (23, .astore 5, 2), (25, .iconst 3, 1), (26, .ireturn, 1), (27, .astore 5, 2), (29, .iconst 4, 1), (30, .ireturn, 1), (31, .iconst 0, 1), (32, .ireturn, 1)]
set_option maxRecDepth 100000 in
theorem jD5 : ∀ q ∈ jP5, decode method_8_code q.1 = .ok q.2 := by decide +kernel
/-- LinkedCoresLaw.link(LLinkedCores;II[J)I -/
def jP6 : List (Nat × Instr × Nat) := [(0, .aload_n 3, 1), (1, .iconst 0, 1), (2, .aload_n 0, 1), (3, .iload_n 1, 1), (4, .iload_n 2, 1), (5, .invokevirtual 41, 3), (8, .i2l, 1), (9, .lastore, 1), (10, .goto 15, 3), (13, .astore 4, 2), (15, .iconst 1, 1), (16, .ireturn, 1), (17, .astore 4, 2), (19, .iconst 2, 1), (20, .ireturn, 1), (21, .astore 4, 2), (23, .iconst 3, 1), (24, .ireturn, 1), (25, .iconst 0, 1), (26, .ireturn, 1)]
set_option maxRecDepth 100000 in
theorem jD6 : ∀ q ∈ jP6, decode method_9_code q.1 = .ok q.2 := by decide +kernel
/-- LinkedCoresLaw.begin(LLinkedCores;)I -/
def jP7 : List (Nat × Instr × Nat) := [(0, .aload_n 0, 1), (1, .invokevirtual 44, 3), (4, .goto 6, 3), (7, .astore_n 1, 1), (8, .iconst 1, 1), (9, .ireturn, 1), (10, .iconst 0, 1), (11, .ireturn, 1)]
set_option maxRecDepth 100000 in
theorem jD7 : ∀ q ∈ jP7, decode method_10_code q.1 = .ok q.2 := by decide +kernel
/-- LinkedCoresLaw.input(LLinkedCores;I[J)I -/
def jP8 : List (Nat × Instr × Nat) := [(0, .aload_n 2, 1), (1, .iconst 0, 1), (2, .aload_n 0, 1), (3, .iload_n 1, 1), (4, .invokevirtual 47, 3), (7, .i2l, 1), (8, .lastore, 1), (9, .goto 9, 3), (12, .astore_n 3, 1), (13, .iconst 1, 1), (14, .ireturn, 1), (15, .astore_n 3, 1), (16, .iconst 2, 1), (17, .ireturn, 1), (18, .iconst 0, 1), (19, .ireturn, 1)]
set_option maxRecDepth 100000 in
theorem jD8 : ∀ q ∈ jP8, decode method_11_code q.1 = .ok q.2 := by decide +kernel
/-- LinkedCoresLaw.run(LLinkedCores;II[J)I -/
def jP9 : List (Nat × Instr × Nat) := [(0, .aload_n 3, 1), (1, .iconst 0, 1), (2, .aload_n 0, 1), (3, .iload_n 1, 1), (4, .iload_n 2, 1), (5, .invokevirtual 50, 3), (8, .i2l, 1), (9, .lastore, 1), (10, .goto 15, 3), (13, .astore 4, 2), (15, .iconst 1, 1), (16, .ireturn, 1), (17, .astore 4, 2), (19, .iconst 2, 1), (20, .ireturn, 1), (21, .astore 4, 2), (23, .iconst 3, 1), (24, .ireturn, 1), (25, .iconst 0, 1), (26, .ireturn, 1)]
set_option maxRecDepth 100000 in
theorem jD9 : ∀ q ∈ jP9, decode method_12_code q.1 = .ok q.2 := by decide +kernel
/-- LinkedCoresLaw.beat(LLinkedCores;I[J)I -/
def jP10 : List (Nat × Instr × Nat) := [(0, .aload_n 2, 1), (1, .iconst 0, 1), (2, .aload_n 0, 1), (3, .iload_n 1, 1), (4, .invokevirtual 53, 3), (7, .i2l, 1), (8, .lastore, 1), (9, .goto 9, 3), (12, .astore_n 3, 1), (13, .iconst 1, 1), (14, .ireturn, 1), (15, .astore_n 3, 1), (16, .iconst 2, 1), (17, .ireturn, 1), (18, .iconst 0, 1), (19, .ireturn, 1)]
set_option maxRecDepth 100000 in
theorem jD10 : ∀ q ∈ jP10, decode method_13_code q.1 = .ok q.2 := by decide +kernel
/-- LinkedCoresLaw.rounds(LLinkedCores;I[J)I -/
def jP11 : List (Nat × Instr × Nat) := [(0, .aload_n 2, 1), (1, .iconst 0, 1), (2, .aload_n 0, 1), (3, .iload_n 1, 1), (4, .invokevirtual 56, 3), (7, .i2l, 1), (8, .lastore, 1), (9, .goto 9, 3), (12, .astore_n 3, 1), (13, .iconst 1, 1), (14, .ireturn, 1), (15, .astore_n 3, 1), (16, .iconst 2, 1), (17, .ireturn, 1), (18, .iconst 0, 1), (19, .ireturn, 1)]
set_option maxRecDepth 100000 in
theorem jD11 : ∀ q ∈ jP11, decode method_14_code q.1 = .ok q.2 := by decide +kernel
/-- LinkedCoresLaw.outcome(LLinkedCores;[J)I -/
def jP12 : List (Nat × Instr × Nat) := [(0, .aload_n 1, 1), (1, .iconst 0, 1), (2, .aload_n 0, 1), (3, .invokevirtual 59, 3), (6, .i2l, 1), (7, .lastore, 1), (8, .goto 6, 3), (11, .astore_n 2, 1), (12, .iconst 1, 1), (13, .ireturn, 1), (14, .iconst 0, 1), (15, .ireturn, 1)]
set_option maxRecDepth 100000 in
theorem jD12 : ∀ q ∈ jP12, decode method_15_code q.1 = .ok q.2 := by decide +kernel
/-- LinkedCoresLaw.core(LLinkedCores;II[J)I -/
def jP13 : List (Nat × Instr × Nat) := [(0, .aload_n 3, 1), (1, .iconst 0, 1), (2, .aload_n 0, 1), (3, .iload_n 1, 1), (4, .iload_n 2, 1), (5, .invokevirtual 63, 3), (8, .i2l, 1), (9, .lastore, 1), (10, .goto 15, 3), (13, .astore 4, 2), (15, .iconst 1, 1), (16, .ireturn, 1), (17, .astore 4, 2), (19, .iconst 2, 1), (20, .ireturn, 1), (21, .astore 4, 2), (23, .iconst 3, 1), (24, .ireturn, 1), (25, .iconst 0, 1), (26, .ireturn, 1)]
set_option maxRecDepth 100000 in
theorem jD13 : ∀ q ∈ jP13, decode method_16_code q.1 = .ok q.2 := by decide +kernel
/-- LinkedCoresLaw.ready(LLinkedCores;II[J)I -/
def jP14 : List (Nat × Instr × Nat) := [(0, .aload_n 3, 1), (1, .iconst 0, 1), (2, .aload_n 0, 1), (3, .iload_n 1, 1), (4, .iload_n 2, 1), (5, .invokevirtual 66, 3), (8, .i2l, 1), (9, .lastore, 1), (10, .goto 15, 3), (13, .astore 4, 2), (15, .iconst 1, 1), (16, .ireturn, 1), (17, .astore 4, 2), (19, .iconst 2, 1), (20, .ireturn, 1), (21, .astore 4, 2), (23, .iconst 3, 1), (24, .ireturn, 1), (25, .iconst 0, 1), (26, .ireturn, 1)]
set_option maxRecDepth 100000 in
theorem jD14 : ∀ q ∈ jP14, decode method_17_code q.1 = .ok q.2 := by decide +kernel
/-- LinkedCoresLaw.word(LLinkedCores;II[J)I -/
def jP15 : List (Nat × Instr × Nat) := [(0, .aload_n 3, 1), (1, .iconst 0, 1), (2, .aload_n 0, 1), (3, .iload_n 1, 1), (4, .iload_n 2, 1), (5, .invokevirtual 69, 3), (8, .i2l, 1), (9, .lastore, 1), (10, .goto 15, 3), (13, .astore 4, 2), (15, .iconst 1, 1), (16, .ireturn, 1), (17, .astore 4, 2), (19, .iconst 2, 1), (20, .ireturn, 1), (21, .astore 4, 2), (23, .iconst 3, 1), (24, .ireturn, 1), (25, .iconst 0, 1), (26, .ireturn, 1)]
set_option maxRecDepth 100000 in
theorem jD15 : ∀ q ∈ jP15, decode method_18_code q.1 = .ok q.2 := by decide +kernel
/-- LinkedCoresLaw.output(LLinkedCores;I[J)I -/
def jP16 : List (Nat × Instr × Nat) := [(0, .aload_n 2, 1), (1, .iconst 0, 1), (2, .aload_n 0, 1), (3, .iload_n 1, 1), (4, .invokevirtual 72, 3), (7, .i2l, 1), (8, .lastore, 1), (9, .goto 9, 3), (12, .astore_n 3, 1), (13, .iconst 1, 1), (14, .ireturn, 1), (15, .astore_n 3, 1), (16, .iconst 2, 1), (17, .ireturn, 1), (18, .iconst 0, 1), (19, .ireturn, 1)]
set_option maxRecDepth 100000 in
theorem jD16 : ∀ q ∈ jP16, decode method_19_code q.1 = .ok q.2 := by decide +kernel
/-- LinkedCoresLaw.about(LLinkedCores;I[J)I -/
def jP17 : List (Nat × Instr × Nat) := [(0, .aload_n 2, 1), (1, .iconst 0, 1), (2, .aload_n 0, 1), (3, .iload_n 1, 1), (4, .invokevirtual 75, 3), (7, .i2l, 1), (8, .lastore, 1), (9, .goto 9, 3), (12, .astore_n 3, 1), (13, .iconst 1, 1), (14, .ireturn, 1), (15, .astore_n 3, 1), (16, .iconst 2, 1), (17, .ireturn, 1), (18, .iconst 0, 1), (19, .ireturn, 1)]
set_option maxRecDepth 100000 in
theorem jD17 : ∀ q ∈ jP17, decode method_20_code q.1 = .ok q.2 := by decide +kernel
/-- LinkedCoresLaw.law([I)Z -/
def jP18_0 : List (Nat × Instr × Nat) := [(0, .new 8, 3), (3, .dup, 1), (4, .invokespecial 78, 3), (7, .astore_n 1, 1), (8, .new 79, 3), (11, .dup, 1), (12, .invokespecial 81, 3), (15, .astore_n 2, 1), (16, .iconst 1, 1), (17, .newarray .long, 2)]
set_option maxRecDepth 100000 in
theorem jD18_0 : ∀ q ∈ jP18_0, decode code q.1 = .ok q.2 := by decide +kernel
def jP18_1 : List (Nat × Instr × Nat) := [(19, .astore_n 3, 1), (20, .iconst 0, 1), (21, .istore 4, 2), (23, .iload 4, 2), (25, .aload_n 0, 1), (26, .arraylength, 1), (27, .iconst 4, 1), (28, .isub, 1), (29, .if_icmp .gt 711, 3), (32, .aload_n 0, 1)]
set_option maxRecDepth 100000 in
theorem jD18_1 : ∀ q ∈ jP18_1, decode code q.1 = .ok q.2 := by decide +kernel
def jP18_2 : List (Nat × Instr × Nat) := [(33, .iload 4, 2), (35, .iaload, 1), (36, .bipush 31, 2), (38, .iand, 1), (39, .tableswitch 695 0 18 #[89, 117, 153, 166, 194, 234, 274, 326, 366, 379, 407, 447, 475, 503, 519, 559, 599, 639, 667], 89), (128, .aload_n 1, 1), (129, .aload_n 0, 1), (130, .iload 4, 2), (132, .iconst 1, 1), (133, .iadd, 1)]
set_option maxRecDepth 100000 in
theorem jD18_2 : ∀ q ∈ jP18_2, decode code q.1 = .ok q.2 := by decide +kernel
def jP18_3 : List (Nat × Instr × Nat) := [(134, .iaload, 1), (135, .aload_n 3, 1), (136, .invokestatic 82, 3), (139, .istore 5, 2), (141, .aload_n 2, 1), (142, .aload_n 0, 1), (143, .iload 4, 2), (145, .iconst 1, 1), (146, .iadd, 1), (147, .iaload, 1)]
set_option maxRecDepth 100000 in
theorem jD18_3 : ∀ q ∈ jP18_3, decode code q.1 = .ok q.2 := by decide +kernel
def jP18_4 : List (Nat × Instr × Nat) := [(148, .invokevirtual 87, 3), (151, .istore 6, 2), (153, .goto 581, 3), (156, .aload_n 1, 1), (157, .aload_n 0, 1), (158, .iload 4, 2), (160, .iconst 1, 1), (161, .iadd, 1), (162, .iaload, 1), (163, .invokestatic 88, 3)]
set_option maxRecDepth 100000 in
theorem jD18_4 : ∀ q ∈ jP18_4, decode code q.1 = .ok q.2 := by decide +kernel
def jP18_5 : List (Nat × Instr × Nat) := [(166, .istore 5, 2), (168, .aload_n 2, 1), (169, .aload_n 0, 1), (170, .iload 4, 2), (172, .iconst 1, 1), (173, .iadd, 1), (174, .iaload, 1), (175, .invokevirtual 91, 3), (178, .aload_n 2, 1), (179, .invokevirtual 92, 3)]
set_option maxRecDepth 100000 in
theorem jD18_5 : ∀ q ∈ jP18_5, decode code q.1 = .ok q.2 := by decide +kernel
def jP18_6 : List (Nat × Instr × Nat) := [(182, .iload 5, 2), (184, .if_icmp .eq 5, 3), (187, .iconst 0, 1), (188, .ireturn, 1), (189, .goto 545, 3), (192, .aload_n 1, 1), (193, .invokevirtual 95, 3), (196, .pop, 1), (197, .aload_n 2, 1), (198, .invokevirtual 98, 3)]
set_option maxRecDepth 100000 in
theorem jD18_6 : ∀ q ∈ jP18_6, decode code q.1 = .ok q.2 := by decide +kernel
def jP18_7 : List (Nat × Instr × Nat) := [(201, .pop, 1), (202, .goto 532, 3), (205, .aload_n 1, 1), (206, .aload_n 0, 1), (207, .iload 4, 2), (209, .iconst 1, 1), (210, .iadd, 1), (211, .iaload, 1), (212, .aload_n 3, 1), (213, .invokestatic 99, 3)]
set_option maxRecDepth 100000 in
theorem jD18_7 : ∀ q ∈ jP18_7, decode code q.1 = .ok q.2 := by decide +kernel
def jP18_8 : List (Nat × Instr × Nat) := [(216, .istore 5, 2), (218, .aload_n 2, 1), (219, .aload_n 0, 1), (220, .iload 4, 2), (222, .iconst 1, 1), (223, .iadd, 1), (224, .iaload, 1), (225, .invokevirtual 101, 3), (228, .istore 6, 2), (230, .goto 504, 3)]
set_option maxRecDepth 100000 in
theorem jD18_8 : ∀ q ∈ jP18_8, decode code q.1 = .ok q.2 := by decide +kernel
def jP18_9 : List (Nat × Instr × Nat) := [(233, .aload_n 1, 1), (234, .aload_n 0, 1), (235, .iload 4, 2), (237, .iconst 1, 1), (238, .iadd, 1), (239, .iaload, 1), (240, .aload_n 0, 1), (241, .iload 4, 2), (243, .iconst 2, 1), (244, .iadd, 1)]
set_option maxRecDepth 100000 in
theorem jD18_9 : ∀ q ∈ jP18_9, decode code q.1 = .ok q.2 := by decide +kernel
def jP18_10 : List (Nat × Instr × Nat) := [(245, .iaload, 1), (246, .aload_n 3, 1), (247, .invokestatic 102, 3), (250, .istore 5, 2), (252, .aload_n 2, 1), (253, .aload_n 0, 1), (254, .iload 4, 2), (256, .iconst 1, 1), (257, .iadd, 1), (258, .iaload, 1)]
set_option maxRecDepth 100000 in
theorem jD18_10 : ∀ q ∈ jP18_10, decode code q.1 = .ok q.2 := by decide +kernel
def jP18_11 : List (Nat × Instr × Nat) := [(259, .aload_n 0, 1), (260, .iload 4, 2), (262, .iconst 2, 1), (263, .iadd, 1), (264, .iaload, 1), (265, .invokevirtual 105, 3), (268, .istore 6, 2), (270, .goto 464, 3), (273, .aload_n 1, 1), (274, .aload_n 0, 1)]
set_option maxRecDepth 100000 in
theorem jD18_11 : ∀ q ∈ jP18_11, decode code q.1 = .ok q.2 := by decide +kernel
def jP18_12 : List (Nat × Instr × Nat) := [(275, .iload 4, 2), (277, .iconst 1, 1), (278, .iadd, 1), (279, .iaload, 1), (280, .aload_n 0, 1), (281, .iload 4, 2), (283, .iconst 2, 1), (284, .iadd, 1), (285, .iaload, 1), (286, .aload_n 3, 1)]
set_option maxRecDepth 100000 in
theorem jD18_12 : ∀ q ∈ jP18_12, decode code q.1 = .ok q.2 := by decide +kernel
def jP18_13 : List (Nat × Instr × Nat) := [(287, .invokestatic 106, 3), (290, .istore 5, 2), (292, .aload_n 2, 1), (293, .aload_n 0, 1), (294, .iload 4, 2), (296, .iconst 1, 1), (297, .iadd, 1), (298, .iaload, 1), (299, .aload_n 0, 1), (300, .iload 4, 2)]
set_option maxRecDepth 100000 in
theorem jD18_13 : ∀ q ∈ jP18_13, decode code q.1 = .ok q.2 := by decide +kernel
def jP18_14 : List (Nat × Instr × Nat) := [(302, .iconst 2, 1), (303, .iadd, 1), (304, .iaload, 1), (305, .invokevirtual 108, 3), (308, .istore 6, 2), (310, .goto 424, 3), (313, .aload_n 1, 1), (314, .aload_n 0, 1), (315, .iload 4, 2), (317, .iconst 1, 1)]
set_option maxRecDepth 100000 in
theorem jD18_14 : ∀ q ∈ jP18_14, decode code q.1 = .ok q.2 := by decide +kernel
def jP18_15 : List (Nat × Instr × Nat) := [(318, .iadd, 1), (319, .iaload, 1), (320, .aload_n 0, 1), (321, .iload 4, 2), (323, .iconst 2, 1), (324, .iadd, 1), (325, .iaload, 1), (326, .aload_n 0, 1), (327, .iload 4, 2), (329, .iconst 3, 1)]
set_option maxRecDepth 100000 in
theorem jD18_15 : ∀ q ∈ jP18_15, decode code q.1 = .ok q.2 := by decide +kernel
def jP18_16 : List (Nat × Instr × Nat) := [(330, .iadd, 1), (331, .iaload, 1), (332, .aload_n 3, 1), (333, .invokestatic 109, 3), (336, .istore 5, 2), (338, .aload_n 2, 1), (339, .aload_n 0, 1), (340, .iload 4, 2), (342, .iconst 1, 1), (343, .iadd, 1)]
set_option maxRecDepth 100000 in
theorem jD18_16 : ∀ q ∈ jP18_16, decode code q.1 = .ok q.2 := by decide +kernel
def jP18_17 : List (Nat × Instr × Nat) := [(344, .iaload, 1), (345, .aload_n 0, 1), (346, .iload 4, 2), (348, .iconst 2, 1), (349, .iadd, 1), (350, .iaload, 1), (351, .aload_n 0, 1), (352, .iload 4, 2), (354, .iconst 3, 1), (355, .iadd, 1)]
set_option maxRecDepth 100000 in
theorem jD18_17 : ∀ q ∈ jP18_17, decode code q.1 = .ok q.2 := by decide +kernel
def jP18_18 : List (Nat × Instr × Nat) := [(356, .iaload, 1), (357, .invokevirtual 112, 3), (360, .istore 6, 2), (362, .goto 372, 3), (365, .aload_n 1, 1), (366, .aload_n 0, 1), (367, .iload 4, 2), (369, .iconst 1, 1), (370, .iadd, 1), (371, .iaload, 1)]
set_option maxRecDepth 100000 in
theorem jD18_18 : ∀ q ∈ jP18_18, decode code q.1 = .ok q.2 := by decide +kernel
def jP18_19 : List (Nat × Instr × Nat) := [(372, .aload_n 0, 1), (373, .iload 4, 2), (375, .iconst 2, 1), (376, .iadd, 1), (377, .iaload, 1), (378, .aload_n 3, 1), (379, .invokestatic 113, 3), (382, .istore 5, 2), (384, .aload_n 2, 1), (385, .aload_n 0, 1)]
set_option maxRecDepth 100000 in
theorem jD18_19 : ∀ q ∈ jP18_19, decode code q.1 = .ok q.2 := by decide +kernel
def jP18_20 : List (Nat × Instr × Nat) := [(386, .iload 4, 2), (388, .iconst 1, 1), (389, .iadd, 1), (390, .iaload, 1), (391, .aload_n 0, 1), (392, .iload 4, 2), (394, .iconst 2, 1), (395, .iadd, 1), (396, .iaload, 1), (397, .invokevirtual 115, 3)]
set_option maxRecDepth 100000 in
theorem jD18_20 : ∀ q ∈ jP18_20, decode code q.1 = .ok q.2 := by decide +kernel
def jP18_21 : List (Nat × Instr × Nat) := [(400, .istore 6, 2), (402, .goto 332, 3), (405, .aload_n 1, 1), (406, .invokestatic 116, 3), (409, .istore 5, 2), (411, .aload_n 2, 1), (412, .invokevirtual 119, 3), (415, .goto 319, 3), (418, .aload_n 1, 1), (419, .aload_n 0, 1)]
set_option maxRecDepth 100000 in
theorem jD18_21 : ∀ q ∈ jP18_21, decode code q.1 = .ok q.2 := by decide +kernel
def jP18_22 : List (Nat × Instr × Nat) := [(420, .iload 4, 2), (422, .iconst 1, 1), (423, .iadd, 1), (424, .iaload, 1), (425, .aload_n 3, 1), (426, .invokestatic 120, 3), (429, .istore 5, 2), (431, .aload_n 2, 1), (432, .aload_n 0, 1), (433, .iload 4, 2)]
set_option maxRecDepth 100000 in
theorem jD18_22 : ∀ q ∈ jP18_22, decode code q.1 = .ok q.2 := by decide +kernel
def jP18_23 : List (Nat × Instr × Nat) := [(435, .iconst 1, 1), (436, .iadd, 1), (437, .iaload, 1), (438, .invokevirtual 122, 3), (441, .istore 6, 2), (443, .goto 291, 3), (446, .aload_n 1, 1), (447, .aload_n 0, 1), (448, .iload 4, 2), (450, .iconst 1, 1)]
set_option maxRecDepth 100000 in
theorem jD18_23 : ∀ q ∈ jP18_23, decode code q.1 = .ok q.2 := by decide +kernel
def jP18_24 : List (Nat × Instr × Nat) := [(451, .iadd, 1), (452, .iaload, 1), (453, .aload_n 0, 1), (454, .iload 4, 2), (456, .iconst 2, 1), (457, .iadd, 1), (458, .iaload, 1), (459, .aload_n 3, 1), (460, .invokestatic 123, 3), (463, .istore 5, 2)]
set_option maxRecDepth 100000 in
theorem jD18_24 : ∀ q ∈ jP18_24, decode code q.1 = .ok q.2 := by decide +kernel
def jP18_25 : List (Nat × Instr × Nat) := [(465, .aload_n 2, 1), (466, .aload_n 0, 1), (467, .iload 4, 2), (469, .iconst 1, 1), (470, .iadd, 1), (471, .iaload, 1), (472, .aload_n 0, 1), (473, .iload 4, 2), (475, .iconst 2, 1), (476, .iadd, 1)]
set_option maxRecDepth 100000 in
theorem jD18_25 : ∀ q ∈ jP18_25, decode code q.1 = .ok q.2 := by decide +kernel
def jP18_26 : List (Nat × Instr × Nat) := [(477, .iaload, 1), (478, .invokevirtual 125, 3), (481, .istore 6, 2), (483, .goto 251, 3), (486, .aload_n 1, 1), (487, .aload_n 0, 1), (488, .iload 4, 2), (490, .iconst 1, 1), (491, .iadd, 1), (492, .iaload, 1)]
set_option maxRecDepth 100000 in
theorem jD18_26 : ∀ q ∈ jP18_26, decode code q.1 = .ok q.2 := by decide +kernel
def jP18_27 : List (Nat × Instr × Nat) := [(493, .aload_n 3, 1), (494, .invokestatic 126, 3), (497, .istore 5, 2), (499, .aload_n 2, 1), (500, .aload_n 0, 1), (501, .iload 4, 2), (503, .iconst 1, 1), (504, .iadd, 1), (505, .iaload, 1), (506, .invokevirtual 128, 3)]
set_option maxRecDepth 100000 in
theorem jD18_27 : ∀ q ∈ jP18_27, decode code q.1 = .ok q.2 := by decide +kernel
def jP18_28 : List (Nat × Instr × Nat) := [(509, .istore 6, 2), (511, .goto 223, 3), (514, .aload_n 1, 1), (515, .aload_n 0, 1), (516, .iload 4, 2), (518, .iconst 1, 1), (519, .iadd, 1), (520, .iaload, 1), (521, .aload_n 3, 1), (522, .invokestatic 129, 3)]
set_option maxRecDepth 100000 in
theorem jD18_28 : ∀ q ∈ jP18_28, decode code q.1 = .ok q.2 := by decide +kernel
def jP18_29 : List (Nat × Instr × Nat) := [(525, .istore 5, 2), (527, .aload_n 2, 1), (528, .aload_n 0, 1), (529, .iload 4, 2), (531, .iconst 1, 1), (532, .iadd, 1), (533, .iaload, 1), (534, .invokevirtual 131, 3), (537, .istore 6, 2), (539, .goto 195, 3)]
set_option maxRecDepth 100000 in
theorem jD18_29 : ∀ q ∈ jP18_29, decode code q.1 = .ok q.2 := by decide +kernel
def jP18_30 : List (Nat × Instr × Nat) := [(542, .aload_n 1, 1), (543, .aload_n 3, 1), (544, .invokestatic 132, 3), (547, .istore 5, 2), (549, .aload_n 2, 1), (550, .invokevirtual 135, 3), (553, .istore 6, 2), (555, .goto 179, 3), (558, .aload_n 1, 1), (559, .aload_n 0, 1)]
set_option maxRecDepth 100000 in
theorem jD18_30 : ∀ q ∈ jP18_30, decode code q.1 = .ok q.2 := by decide +kernel
def jP18_31 : List (Nat × Instr × Nat) := [(560, .iload 4, 2), (562, .iconst 1, 1), (563, .iadd, 1), (564, .iaload, 1), (565, .aload_n 0, 1), (566, .iload 4, 2), (568, .iconst 2, 1), (569, .iadd, 1), (570, .iaload, 1), (571, .aload_n 3, 1)]
set_option maxRecDepth 100000 in
theorem jD18_31 : ∀ q ∈ jP18_31, decode code q.1 = .ok q.2 := by decide +kernel
def jP18_32 : List (Nat × Instr × Nat) := [(572, .invokestatic 136, 3), (575, .istore 5, 2), (577, .aload_n 2, 1), (578, .aload_n 0, 1), (579, .iload 4, 2), (581, .iconst 1, 1), (582, .iadd, 1), (583, .iaload, 1), (584, .aload_n 0, 1), (585, .iload 4, 2)]
set_option maxRecDepth 100000 in
theorem jD18_32 : ∀ q ∈ jP18_32, decode code q.1 = .ok q.2 := by decide +kernel
def jP18_33 : List (Nat × Instr × Nat) := [(587, .iconst 2, 1), (588, .iadd, 1), (589, .iaload, 1), (590, .invokevirtual 138, 3), (593, .istore 6, 2), (595, .goto 139, 3), (598, .aload_n 1, 1), (599, .aload_n 0, 1), (600, .iload 4, 2), (602, .iconst 1, 1)]
set_option maxRecDepth 100000 in
theorem jD18_33 : ∀ q ∈ jP18_33, decode code q.1 = .ok q.2 := by decide +kernel
def jP18_34 : List (Nat × Instr × Nat) := [(603, .iadd, 1), (604, .iaload, 1), (605, .aload_n 0, 1), (606, .iload 4, 2), (608, .iconst 2, 1), (609, .iadd, 1), (610, .iaload, 1), (611, .aload_n 3, 1), (612, .invokestatic 139, 3), (615, .istore 5, 2)]
set_option maxRecDepth 100000 in
theorem jD18_34 : ∀ q ∈ jP18_34, decode code q.1 = .ok q.2 := by decide +kernel
def jP18_35 : List (Nat × Instr × Nat) := [(617, .aload_n 2, 1), (618, .aload_n 0, 1), (619, .iload 4, 2), (621, .iconst 1, 1), (622, .iadd, 1), (623, .iaload, 1), (624, .aload_n 0, 1), (625, .iload 4, 2), (627, .iconst 2, 1), (628, .iadd, 1)]
set_option maxRecDepth 100000 in
theorem jD18_35 : ∀ q ∈ jP18_35, decode code q.1 = .ok q.2 := by decide +kernel
def jP18_36 : List (Nat × Instr × Nat) := [(629, .iaload, 1), (630, .invokevirtual 141, 3), (633, .istore 6, 2), (635, .goto 99, 3), (638, .aload_n 1, 1), (639, .aload_n 0, 1), (640, .iload 4, 2), (642, .iconst 1, 1), (643, .iadd, 1), (644, .iaload, 1)]
set_option maxRecDepth 100000 in
theorem jD18_36 : ∀ q ∈ jP18_36, decode code q.1 = .ok q.2 := by decide +kernel
def jP18_37 : List (Nat × Instr × Nat) := [(645, .aload_n 0, 1), (646, .iload 4, 2), (648, .iconst 2, 1), (649, .iadd, 1), (650, .iaload, 1), (651, .aload_n 3, 1), (652, .invokestatic 142, 3), (655, .istore 5, 2), (657, .aload_n 2, 1), (658, .aload_n 0, 1)]
set_option maxRecDepth 100000 in
theorem jD18_37 : ∀ q ∈ jP18_37, decode code q.1 = .ok q.2 := by decide +kernel
def jP18_38 : List (Nat × Instr × Nat) := [(659, .iload 4, 2), (661, .iconst 1, 1), (662, .iadd, 1), (663, .iaload, 1), (664, .aload_n 0, 1), (665, .iload 4, 2), (667, .iconst 2, 1), (668, .iadd, 1), (669, .iaload, 1), (670, .invokevirtual 144, 3)]
set_option maxRecDepth 100000 in
theorem jD18_38 : ∀ q ∈ jP18_38, decode code q.1 = .ok q.2 := by decide +kernel
def jP18_39 : List (Nat × Instr × Nat) := [(673, .istore 6, 2), (675, .goto 59, 3), (678, .aload_n 1, 1), (679, .aload_n 0, 1), (680, .iload 4, 2), (682, .iconst 1, 1), (683, .iadd, 1), (684, .iaload, 1), (685, .aload_n 3, 1), (686, .invokestatic 145, 3)]
set_option maxRecDepth 100000 in
theorem jD18_39 : ∀ q ∈ jP18_39, decode code q.1 = .ok q.2 := by decide +kernel
def jP18_40 : List (Nat × Instr × Nat) := [(689, .istore 5, 2), (691, .aload_n 2, 1), (692, .aload_n 0, 1), (693, .iload 4, 2), (695, .iconst 1, 1), (696, .iadd, 1), (697, .iaload, 1), (698, .invokevirtual 147, 3), (701, .istore 6, 2), (703, .goto 31, 3)]
set_option maxRecDepth 100000 in
theorem jD18_40 : ∀ q ∈ jP18_40, decode code q.1 = .ok q.2 := by decide +kernel
def jP18_41 : List (Nat × Instr × Nat) := [(706, .aload_n 1, 1), (707, .aload_n 0, 1), (708, .iload 4, 2), (710, .iconst 1, 1), (711, .iadd, 1), (712, .iaload, 1), (713, .aload_n 3, 1), (714, .invokestatic 148, 3), (717, .istore 5, 2), (719, .aload_n 2, 1)]
set_option maxRecDepth 100000 in
theorem jD18_41 : ∀ q ∈ jP18_41, decode code q.1 = .ok q.2 := by decide +kernel
def jP18_42 : List (Nat × Instr × Nat) := [(720, .aload_n 0, 1), (721, .iload 4, 2), (723, .iconst 1, 1), (724, .iadd, 1), (725, .iaload, 1), (726, .invokevirtual 150, 3), (729, .istore 6, 2), (731, .goto 3, 3), (734, .iinc 4 4, 3), (737, .goto (-714), 3)]
set_option maxRecDepth 100000 in
theorem jD18_42 : ∀ q ∈ jP18_42, decode code q.1 = .ok q.2 := by decide +kernel
def jP18_43 : List (Nat × Instr × Nat) := [(740, .iconst 1, 1), (741, .ireturn, 1)]
set_option maxRecDepth 100000 in
theorem jD18_43 : ∀ q ∈ jP18_43, decode code q.1 = .ok q.2 := by decide +kernel
def jP18 : List (Nat × Instr × Nat) := jP18_0 ++ (jP18_1 ++ (jP18_2 ++ (jP18_3 ++ (jP18_4 ++ (jP18_5 ++ (jP18_6 ++ (jP18_7 ++ (jP18_8 ++ (jP18_9 ++ (jP18_10 ++ (jP18_11 ++ (jP18_12 ++ (jP18_13 ++ (jP18_14 ++ (jP18_15 ++ (jP18_16 ++ (jP18_17 ++ (jP18_18 ++ (jP18_19 ++ (jP18_20 ++ (jP18_21 ++ (jP18_22 ++ (jP18_23 ++ (jP18_24 ++ (jP18_25 ++ (jP18_26 ++ (jP18_27 ++ (jP18_28 ++ (jP18_29 ++ (jP18_30 ++ (jP18_31 ++ (jP18_32 ++ (jP18_33 ++ (jP18_34 ++ (jP18_35 ++ (jP18_36 ++ (jP18_37 ++ (jP18_38 ++ (jP18_39 ++ (jP18_40 ++ (jP18_41 ++ (jP18_42 ++ (jP18_43)))))))))))))))))))))))))))))))))))))))))))
theorem jD18 : ∀ q ∈ jP18, decode code q.1 = .ok q.2 := jApp jD18_0 (jApp jD18_1 (jApp jD18_2 (jApp jD18_3 (jApp jD18_4 (jApp jD18_5 (jApp jD18_6 (jApp jD18_7 (jApp jD18_8 (jApp jD18_9 (jApp jD18_10 (jApp jD18_11 (jApp jD18_12 (jApp jD18_13 (jApp jD18_14 (jApp jD18_15 (jApp jD18_16 (jApp jD18_17 (jApp jD18_18 (jApp jD18_19 (jApp jD18_20 (jApp jD18_21 (jApp jD18_22 (jApp jD18_23 (jApp jD18_24 (jApp jD18_25 (jApp jD18_26 (jApp jD18_27 (jApp jD18_28 (jApp jD18_29 (jApp jD18_30 (jApp jD18_31 (jApp jD18_32 (jApp jD18_33 (jApp jD18_34 (jApp jD18_35 (jApp jD18_36 (jApp jD18_37 (jApp jD18_38 (jApp jD18_39 (jApp jD18_40 (jApp jD18_41 (jApp jD18_42 jD18_43))))))))))))))))))))))))))))))))))))))))))
/-- LinkedCores.<init>()V -/
def jP19 : List (Nat × Instr × Nat) := [(0, .aload_n 0, 1), (1, .invokespecial 1, 3), (4, .aload_n 0, 1), (5, .sipush 3000, 3), (8, .newarray .byte, 2), (10, .putfield 9, 3), (13, .aload_n 0, 1), (14, .iconst (-1), 1), (15, .putfield 13, 3), (18, .aload_n 0, 1), (19, .iconst (-1), 1), (20, .putfield 17, 3), (23, .aload_n 0, 1), (24, .iconst 0, 1), (25, .putfield 20, 3), (28, .return_, 1)]
set_option maxRecDepth 100000 in
theorem jD19 : ∀ q ∈ jP19, decode prog_1_method_1_code q.1 = .ok q.2 := by decide +kernel
/-- LinkedCores.put(I)I -/
def jP20_0 : List (Nat × Instr × Nat) := [(0, .iconst 0, 1), (1, .istore_n 2, 1), (2, .iconst 0, 1), (3, .istore_n 3, 1), (4, .iload_n 3, 1), (5, .iconst 4, 1), (6, .if_icmp .ge 70, 3), (9, .iload_n 1, 1), (10, .bipush 8, 2), (12, .iload_n 3, 1), (13, .imul, 1), (14, .iushr, 1), (15, .sipush 255, 3), (18, .iand, 1), (19, .istore 4, 2), (21, .iload 4, 2), (23, .ifCond .eq 34, 3), (26, .iload 4, 2), (28, .bipush 10, 2), (30, .if_icmp .eq 27, 3), (33, .iload 4, 2), (35, .bipush 32, 2), (37, .if_icmp .lt 10, 3), (40, .iload 4, 2), (42, .bipush 126, 2), (44, .if_icmp .le 13, 3), (47, .new 23, 3), (50, .dup, 1), (51, .ldc 25, 2), (53, .invokespecial 27, 3), (56, .athrow, 1), (57, .iload_n 2, 1), (58, .iload 4, 2), (60, .ifCond .ne 7, 3), (63, .iconst 0, 1), (64, .goto 4, 3), (67, .iconst 1, 1), (68, .iadd, 1), (69, .istore_n 2, 1), (70, .iinc 3 1, 3), (73, .goto (-69), 3), (76, .aload_n 0, 1), (77, .getfield 20, 3), (80, .iload_n 2, 1), (81, .iadd, 1), (82, .sipush 3000, 3), (85, .if_icmp .le 13, 3), (88, .new 30, 3)]
set_option maxRecDepth 100000 in
theorem jD20_0 : ∀ q ∈ jP20_0, decode prog_1_method_2_code q.1 = .ok q.2 := by decide +kernel
def jP20_1 : List (Nat × Instr × Nat) := [(91, .dup, 1), (92, .ldc 32, 2), (94, .invokespecial 34, 3), (97, .athrow, 1), (98, .iconst 0, 1), (99, .istore_n 3, 1), (100, .iload_n 3, 1), (101, .iconst 4, 1), (102, .if_icmp .ge 58, 3), (105, .iload_n 1, 1), (106, .bipush 8, 2), (108, .iload_n 3, 1), (109, .imul, 1), (110, .iushr, 1), (111, .sipush 255, 3), (114, .iand, 1), (115, .istore 4, 2), (117, .iload 4, 2), (119, .ifCond .eq 35, 3), (122, .aload_n 0, 1), (123, .getfield 20, 3), (126, .sipush 3000, 3), (129, .if_icmp .ge 25, 3), (132, .aload_n 0, 1), (133, .getfield 9, 3), (136, .aload_n 0, 1), (137, .getfield 20, 3), (140, .iload 4, 2), (142, .i2b, 1), (143, .bastore, 1), (144, .aload_n 0, 1), (145, .dup, 1), (146, .getfield 20, 3), (149, .iconst 1, 1), (150, .iadd, 1), (151, .putfield 20, 3), (154, .iinc 3 1, 3), (157, .goto (-57), 3), (160, .aload_n 0, 1), (161, .getfield 20, 3), (164, .ireturn, 1)]
set_option maxRecDepth 100000 in
theorem jD20_1 : ∀ q ∈ jP20_1, decode prog_1_method_2_code q.1 = .ok q.2 := by decide +kernel
def jP20 : List (Nat × Instr × Nat) := jP20_0 ++ (jP20_1)
theorem jD20 : ∀ q ∈ jP20, decode prog_1_method_2_code q.1 = .ok q.2 := jApp jD20_0 jD20_1
/-- LinkedCores.end(I)V -/
def jP21 : List (Nat × Instr × Nat) := [(0, .iload_n 1, 1), (1, .ifCond .lt 11, 3), (4, .iload_n 1, 1), (5, .aload_n 0, 1), (6, .getfield 20, 3), (9, .if_icmp .le 13, 3), (12, .new 23, 3), (15, .dup, 1), (16, .ldc 35, 2), (18, .invokespecial 27, 3), (21, .athrow, 1), (22, .aload_n 0, 1), (23, .iload_n 1, 1), (24, .putfield 20, 3), (27, .return_, 1)]
set_option maxRecDepth 100000 in
theorem jD21 : ∀ q ∈ jP21, decode prog_1_method_3_code q.1 = .ok q.2 := by decide +kernel
/-- LinkedCores.compile()I -/
def jP22_0 : List (Nat × Instr × Nat) := [(0, .new 37, 3), (3, .dup, 1), (4, .invokespecial 39, 3), (7, .astore_n 1, 1), (8, .aload_n 0, 1), (9, .aconst_null, 1), (10, .putfield 40, 3), (13, .new 44, 3), (16, .dup, 1), (17, .aload_n 0, 1), (18, .getfield 9, 3), (21, .aload_n 0, 1), (22, .getfield 20, 3), (25, .invokespecial 46, 3), (28, .astore_n 2, 1), (29, .aload_n 2, 1), (30, .invokevirtual 49, 3), (33, .new 52, 3), (36, .dup, 1), (37, .aload_n 1, 1), (38, .aload_n 2, 1), (39, .invokespecial 54, 3), (42, .invokevirtual 57, 3), (45, .aload_n 0, 1), (46, .iconst 0, 1), (47, .putfield 20, 3), (50, .aload_n 1, 1), (51, .getfield 60, 3), (54, .ifCond .ne 14, 3), (57, .new 63, 3), (60, .dup, 1), (61, .invokespecial 65, 3), (64, .aload_n 1, 1), (65, .invokevirtual 66, 3), (68, .aload_n 1, 1), (69, .getfield 60, 3), (72, .ifCond .ne 14, 3), (75, .new 70, 3), (78, .dup, 1), (79, .aload_n 1, 1), (80, .invokespecial 72, 3), (83, .invokevirtual 74, 3), (86, .aload_n 1, 1), (87, .getfield 60, 3), (90, .ifCond .ne 11, 3), (93, .aload_n 0, 1), (94, .aload_n 1, 1), (95, .invokevirtual 77, 3), (98, .goto 4, 3), (101, .aconst_null, 1), (102, .astore_n 3, 1), (103, .aload_n 0, 1), (104, .aload_n 1, 1), (105, .getfield 60, 3), (108, .putfield 81, 3)]
set_option maxRecDepth 100000 in
theorem jD22_0 : ∀ q ∈ jP22_0, decode prog_1_method_4_code q.1 = .ok q.2 := by decide +kernel
def jP22_1 : List (Nat × Instr × Nat) := [(111, .aload_n 0, 1), (112, .aload_n 1, 1), (113, .getfield 84, 3), (116, .putfield 13, 3), (119, .aload_n 0, 1), (120, .aload_n 1, 1), (121, .getfield 87, 3), (124, .putfield 17, 3), (127, .aload_n 0, 1), (128, .aload_n 3, 1), (129, .putfield 40, 3), (132, .aload_n 3, 1), (133, .ifnonnull 7, 3), (136, .iconst (-1), 1), (137, .goto 7, 3), (140, .aload_n 3, 1), (141, .invokevirtual 90, 3), (144, .ireturn, 1)]
set_option maxRecDepth 100000 in
theorem jD22_1 : ∀ q ∈ jP22_1, decode prog_1_method_4_code q.1 = .ok q.2 := by decide +kernel
def jP22 : List (Nat × Instr × Nat) := jP22_0 ++ (jP22_1)
theorem jD22 : ∀ q ∈ jP22, decode prog_1_method_4_code q.1 = .ok q.2 := jApp jD22_0 jD22_1
/-- LinkedCores.fault(I)I -/
def jP23 : List (Nat × Instr × Nat) := [(0, .iload_n 1, 1), (1, .ifCond .lt 8, 3), (4, .iload_n 1, 1), (5, .iconst 2, 1), (6, .if_icmp .le 13, 3), (9, .new 23, 3), (12, .dup, 1), (13, .ldc 96, 2), (15, .invokespecial 27, 3), (18, .athrow, 1), (19, .iload_n 1, 1), (20, .ifCond .ne 10, 3), (23, .aload_n 0, 1), (24, .getfield 81, 3), (27, .goto 19, 3), (30, .iload_n 1, 1), (31, .iconst 1, 1), (32, .if_icmp .ne 10, 3), (35, .aload_n 0, 1), (36, .getfield 13, 3), (39, .goto 7, 3), (42, .aload_n 0, 1), (43, .getfield 17, 3), (46, .ireturn, 1)]
set_option maxRecDepth 100000 in
theorem jD23 : ∀ q ∈ jP23, decode prog_1_method_5_code q.1 = .ok q.2 := by decide +kernel
/-- LinkedCores.processor(II)I -/
def jP24 : List (Nat × Instr × Nat) := [(0, .aload_n 0, 1), (1, .iload_n 1, 1), (2, .invokevirtual 98, 3), (5, .astore_n 3, 1), (6, .iload_n 2, 1), (7, .tableswitch 54 0 3 #[29, 35, 44, 49], 29), (36, .aload_n 3, 1), (37, .getfield 102, 3), (40, .arraylength, 1), (41, .ireturn, 1), (42, .aload_n 3, 1), (43, .getfield 107, 3), (46, .arraylength, 1), (47, .bipush 16, 2), (49, .isub, 1), (50, .ireturn, 1), (51, .aload_n 3, 1), (52, .getfield 111, 3), (55, .ireturn, 1), (56, .aload_n 3, 1), (57, .getfield 114, 3), (60, .ireturn, 1), (61, .new 23, 3), (64, .dup, 1), (65, .ldc 117, 2), (67, .invokespecial 27, 3), (70, .athrow, 1)]
set_option maxRecDepth 100000 in
theorem jD24 : ∀ q ∈ jP24, decode prog_1_method_6_code q.1 = .ok q.2 := by decide +kernel
/-- LinkedCores.code(II)I -/
def jP25 : List (Nat × Instr × Nat) := [(0, .aload_n 0, 1), (1, .iload_n 1, 1), (2, .invokevirtual 98, 3), (5, .astore_n 3, 1), (6, .iload_n 2, 1), (7, .ifCond .lt 12, 3), (10, .iload_n 2, 1), (11, .aload_n 3, 1), (12, .getfield 102, 3), (15, .arraylength, 1), (16, .if_icmp .lt 13, 3), (19, .new 119, 3), (22, .dup, 1), (23, .ldc 121, 2), (25, .invokespecial 123, 3), (28, .athrow, 1), (29, .aload_n 3, 1), (30, .getfield 102, 3), (33, .iload_n 2, 1), (34, .baload, 1), (35, .sipush 255, 3), (38, .iand, 1), (39, .ireturn, 1)]
set_option maxRecDepth 100000 in
theorem jD25 : ∀ q ∈ jP25, decode prog_1_method_7_code q.1 = .ok q.2 := by decide +kernel
/-- LinkedCores.instruction(III)I -/
def jP26 : List (Nat × Instr × Nat) := [(0, .aload_n 0, 1), (1, .iload_n 1, 1), (2, .invokevirtual 98, 3), (5, .astore 4, 2), (7, .iload_n 2, 1), (8, .ifCond .lt 13, 3), (11, .iload_n 2, 1), (12, .aload 4, 2), (14, .getfield 102, 3), (17, .arraylength, 1), (18, .if_icmp .lt 13, 3), (21, .new 119, 3), (24, .dup, 1), (25, .ldc 121, 2), (27, .invokespecial 123, 3), (30, .athrow, 1), (31, .iload_n 3, 1), (32, .ifCond .lt 8, 3), (35, .iload_n 3, 1), (36, .iconst 2, 1), (37, .if_icmp .le 13, 3), (40, .new 23, 3), (43, .dup, 1), (44, .ldc 124, 2), (46, .invokespecial 27, 3), (49, .athrow, 1), (50, .aload 4, 2), (52, .iload_n 2, 1), (53, .iload_n 3, 1), (54, .invokevirtual 126, 3), (57, .ireturn, 1)]
set_option maxRecDepth 100000 in
theorem jD26 : ∀ q ∈ jP26, decode prog_1_method_8_code q.1 = .ok q.2 := by decide +kernel
/-- LinkedCores.link(II)I -/
def jP27 : List (Nat × Instr × Nat) := [(0, .aload_n 0, 1), (1, .invokevirtual 130, 3), (4, .iload_n 1, 1), (5, .invokevirtual 134, 3), (8, .astore_n 3, 1), (9, .aload_n 3, 1), (10, .ifnonnull 13, 3), (13, .new 119, 3), (16, .dup, 1), (17, .ldc 138, 2), (19, .invokespecial 123, 3), (22, .athrow, 1), (23, .iload_n 2, 1), (24, .tableswitch 97 0 5 #[40, 45, 50, 66, 79, 92], 40), (64, .aload_n 3, 1), (65, .getfield 140, 3), (68, .ireturn, 1), (69, .aload_n 3, 1), (70, .getfield 145, 3), (73, .ireturn, 1), (74, .aload_n 3, 1), (75, .getfield 148, 3), (78, .ifCond .eq 7, 3), (81, .iconst 0, 1), (82, .goto 7, 3), (85, .aload_n 3, 1), (86, .getfield 152, 3), (89, .ireturn, 1), (90, .aload_n 3, 1), (91, .getfield 155, 3), (94, .ifCond .eq 7, 3), (97, .iconst 1, 1), (98, .goto 4, 3), (101, .iconst 0, 1), (102, .ireturn, 1), (103, .aload_n 3, 1), (104, .getfield 158, 3), (107, .ifCond .eq 7, 3), (110, .iconst 1, 1), (111, .goto 4, 3), (114, .iconst 0, 1), (115, .ireturn, 1), (116, .aload_n 3, 1), (117, .getfield 161, 3), (120, .ireturn, 1), (121, .new 23, 3), (124, .dup, 1), (125, .ldc 164, 2), (127, .invokespecial 27, 3), (130, .athrow, 1)]
set_option maxRecDepth 100000 in
theorem jD27 : ∀ q ∈ jP27, decode prog_1_method_9_code q.1 = .ok q.2 := by decide +kernel
/-- LinkedCores.begin()V -/
def jP28 : List (Nat × Instr × Nat) := [(0, .aload_n 0, 1), (1, .invokevirtual 130, 3), (4, .invokevirtual 166, 3), (7, .return_, 1)]
set_option maxRecDepth 100000 in
theorem jD28 : ∀ q ∈ jP28, decode prog_1_method_10_code q.1 = .ok q.2 := by decide +kernel
/-- LinkedCores.input(I)I -/
def jP29 : List (Nat × Instr × Nat) := [(0, .aload_n 0, 1), (1, .invokevirtual 130, 3), (4, .astore_n 2, 1), (5, .aload_n 2, 1), (6, .getfield 169, 3), (9, .aload_n 2, 1), (10, .getfield 172, 3), (13, .arraylength, 1), (14, .if_icmp .lt 13, 3), (17, .new 30, 3), (20, .dup, 1), (21, .ldc 175, 2), (23, .invokespecial 34, 3), (26, .athrow, 1), (27, .aload_n 2, 1), (28, .iload_n 1, 1), (29, .invokevirtual 177, 3), (32, .aload_n 2, 1), (33, .getfield 169, 3), (36, .ireturn, 1)]
set_option maxRecDepth 100000 in
theorem jD29 : ∀ q ∈ jP29, decode prog_1_method_11_code q.1 = .ok q.2 := by decide +kernel
/-- LinkedCores.run(II)I -/
def jP30 : List (Nat × Instr × Nat) := [(0, .aload_n 0, 1), (1, .iload_n 1, 1), (2, .invokevirtual 98, 3), (5, .astore_n 3, 1), (6, .iload_n 2, 1), (7, .ifCond .lt 10, 3), (10, .iload_n 2, 1), (11, .sipush 5000, 3), (14, .if_icmp .le 13, 3), (17, .new 23, 3), (20, .dup, 1), (21, .ldc 181, 2), (23, .invokespecial 27, 3), (26, .athrow, 1), (27, .iconst 0, 1), (28, .istore 4, 2), (30, .iconst 0, 1), (31, .istore 5, 2), (33, .iload 5, 2), (35, .iload_n 2, 1), (36, .if_icmp .ge 23, 3), (39, .aload_n 3, 1), (40, .getfield 183, 3), (43, .ifCond .eq 16, 3), (46, .aload_n 3, 1), (47, .invokevirtual 186, 3), (50, .iinc 4 1, 3), (53, .iinc 5 1, 3), (56, .goto (-23), 3), (59, .iload 4, 2), (61, .ireturn, 1)]
set_option maxRecDepth 100000 in
theorem jD30 : ∀ q ∈ jP30, decode prog_1_method_12_code q.1 = .ok q.2 := by decide +kernel
/-- LinkedCores.beat(I)I -/
def jP31 : List (Nat × Instr × Nat) := [(0, .aload_n 0, 1), (1, .invokevirtual 130, 3), (4, .astore_n 2, 1), (5, .iload_n 1, 1), (6, .ifCond .lt 10, 3), (9, .iload_n 1, 1), (10, .sipush 1000, 3), (13, .if_icmp .le 13, 3), (16, .new 23, 3), (19, .dup, 1), (20, .ldc 189, 2), (22, .invokespecial 27, 3), (25, .athrow, 1), (26, .iconst 0, 1), (27, .istore_n 3, 1), (28, .iconst 0, 1), (29, .istore 4, 2), (31, .iload 4, 2), (33, .iload_n 1, 1), (34, .if_icmp .ge 16, 3), (37, .iload_n 3, 1), (38, .aload_n 2, 1), (39, .invokevirtual 191, 3), (42, .iadd, 1), (43, .istore_n 3, 1), (44, .iinc 4 1, 3), (47, .goto (-16), 3), (50, .iload_n 3, 1), (51, .ireturn, 1)]
set_option maxRecDepth 100000 in
theorem jD31 : ∀ q ∈ jP31, decode prog_1_method_13_code q.1 = .ok q.2 := by decide +kernel
/-- LinkedCores.rounds(I)I -/
def jP32 : List (Nat × Instr × Nat) := [(0, .aload_n 0, 1), (1, .invokevirtual 130, 3), (4, .astore_n 2, 1), (5, .iload_n 1, 1), (6, .ifCond .lt 10, 3), (9, .iload_n 1, 1), (10, .sipush 5000, 3), (13, .if_icmp .le 13, 3), (16, .new 23, 3), (19, .dup, 1), (20, .ldc 194, 2), (22, .invokespecial 27, 3), (25, .athrow, 1), (26, .iconst 0, 1), (27, .istore_n 3, 1), (28, .iconst 0, 1), (29, .istore 4, 2), (31, .iload 4, 2), (33, .iload_n 1, 1), (34, .if_icmp .ge 23, 3), (37, .aload_n 2, 1), (38, .invokevirtual 196, 3), (41, .ifCond .ne 16, 3), (44, .aload_n 2, 1), (45, .invokevirtual 199, 3), (48, .iinc 3 1, 3), (51, .iinc 4 1, 3), (54, .goto (-23), 3), (57, .iload_n 3, 1), (58, .ireturn, 1)]
set_option maxRecDepth 100000 in
theorem jD32 : ∀ q ∈ jP32, decode prog_1_method_14_code q.1 = .ok q.2 := by decide +kernel
/-- LinkedCores.outcome()I -/
def jP33 : List (Nat × Instr × Nat) := [(0, .aload_n 0, 1), (1, .invokevirtual 130, 3), (4, .invokevirtual 196, 3), (7, .ireturn, 1)]
set_option maxRecDepth 100000 in
theorem jD33 : ∀ q ∈ jP33, decode prog_1_method_15_code q.1 = .ok q.2 := by decide +kernel
/-- LinkedCores.core(II)I -/
def jP34 : List (Nat × Instr × Nat) := [(0, .aload_n 0, 1), (1, .iload_n 1, 1), (2, .invokevirtual 98, 3), (5, .astore_n 3, 1), (6, .iload_n 2, 1), (7, .ifCond .lt 9, 3), (10, .iload_n 2, 1), (11, .bipush 12, 2), (13, .if_icmp .le 13, 3), (16, .new 23, 3), (19, .dup, 1), (20, .ldc 202, 2), (22, .invokespecial 27, 3), (25, .athrow, 1), (26, .iload_n 2, 1), (27, .iconst 5, 1), (28, .if_icmp .le 9, 3), (31, .iload_n 2, 1), (32, .bipush 12, 2), (34, .if_icmp .ne 11, 3), (37, .aload_n 3, 1), (38, .iload_n 2, 1), (39, .invokevirtual 204, 3), (42, .goto 8, 3), (45, .aload_n 3, 1), (46, .iload_n 2, 1), (47, .invokevirtual 208, 3), (50, .ireturn, 1)]
set_option maxRecDepth 100000 in
theorem jD34 : ∀ q ∈ jP34, decode prog_1_method_16_code q.1 = .ok q.2 := by decide +kernel
/-- LinkedCores.ready(II)I -/
def jP35 : List (Nat × Instr × Nat) := [(0, .aload_n 0, 1), (1, .iload_n 1, 1), (2, .invokevirtual 98, 3), (5, .astore_n 3, 1), (6, .iload_n 2, 1), (7, .ifCond .lt 20, 3), (10, .iload_n 2, 1), (11, .aload_n 3, 1), (12, .getfield 211, 3), (15, .if_icmp .ge 12, 3), (18, .iload_n 2, 1), (19, .aload_n 3, 1), (20, .getfield 214, 3), (23, .arraylength, 1), (24, .if_icmp .lt 13, 3), (27, .new 119, 3), (30, .dup, 1), (31, .ldc 217, 2), (33, .invokespecial 123, 3), (36, .athrow, 1), (37, .aload_n 3, 1), (38, .getfield 214, 3), (41, .iload_n 2, 1), (42, .iaload, 1), (43, .ireturn, 1)]
set_option maxRecDepth 100000 in
theorem jD35 : ∀ q ∈ jP35, decode prog_1_method_17_code q.1 = .ok q.2 := by decide +kernel
/-- LinkedCores.word(II)I -/
def jP36 : List (Nat × Instr × Nat) := [(0, .aload_n 0, 1), (1, .iload_n 1, 1), (2, .invokevirtual 98, 3), (5, .astore_n 3, 1), (6, .iload_n 2, 1), (7, .ifCond .lt 12, 3), (10, .iload_n 2, 1), (11, .aload_n 3, 1), (12, .getfield 107, 3), (15, .arraylength, 1), (16, .if_icmp .lt 13, 3), (19, .new 119, 3), (22, .dup, 1), (23, .ldc 219, 2), (25, .invokespecial 123, 3), (28, .athrow, 1), (29, .aload_n 3, 1), (30, .getfield 107, 3), (33, .iload_n 2, 1), (34, .iaload, 1), (35, .ireturn, 1)]
set_option maxRecDepth 100000 in
theorem jD36 : ∀ q ∈ jP36, decode prog_1_method_18_code q.1 = .ok q.2 := by decide +kernel
/-- LinkedCores.output(I)I -/
def jP37 : List (Nat × Instr × Nat) := [(0, .aload_n 0, 1), (1, .invokevirtual 130, 3), (4, .astore_n 2, 1), (5, .iload_n 1, 1), (6, .ifCond .lt 20, 3), (9, .iload_n 1, 1), (10, .aload_n 2, 1), (11, .getfield 221, 3), (14, .if_icmp .ge 12, 3), (17, .iload_n 1, 1), (18, .aload_n 2, 1), (19, .getfield 224, 3), (22, .arraylength, 1), (23, .if_icmp .lt 13, 3), (26, .new 119, 3), (29, .dup, 1), (30, .ldc 227, 2), (32, .invokespecial 123, 3), (35, .athrow, 1), (36, .aload_n 2, 1), (37, .getfield 224, 3), (40, .iload_n 1, 1), (41, .iaload, 1), (42, .ireturn, 1)]
set_option maxRecDepth 100000 in
theorem jD37 : ∀ q ∈ jP37, decode prog_1_method_19_code q.1 = .ok q.2 := by decide +kernel
/-- LinkedCores.about(I)I -/
def jP38 : List (Nat × Instr × Nat) := [(0, .aload_n 0, 1), (1, .invokevirtual 130, 3), (4, .astore_n 2, 1), (5, .iload_n 1, 1), (6, .tableswitch 86 0 6 #[42, 50, 55, 60, 68, 76, 81], 42), (48, .aload_n 2, 1), (49, .getfield 229, 3), (52, .getfield 233, 3), (55, .ireturn, 1), (56, .aload_n 2, 1), (57, .getfield 236, 3), (60, .ireturn, 1), (61, .aload_n 2, 1), (62, .getfield 221, 3), (65, .ireturn, 1), (66, .aload_n 2, 1), (67, .getfield 229, 3), (70, .getfield 239, 3), (73, .ireturn, 1), (74, .aload_n 2, 1), (75, .getfield 229, 3), (78, .getfield 242, 3), (81, .ireturn, 1), (82, .aload_n 2, 1), (83, .getfield 245, 3), (86, .ireturn, 1), (87, .aload_n 2, 1), (88, .getfield 248, 3), (91, .ireturn, 1), (92, .new 23, 3), (95, .dup, 1), (96, .ldc 251, 2), (98, .invokespecial 27, 3), (101, .athrow, 1)]
set_option maxRecDepth 100000 in
theorem jD38 : ∀ q ∈ jP38, decode prog_1_method_20_code q.1 = .ok q.2 := by decide +kernel
/-- LinkedCores.loaded()LLinkedCores$Machine; -/
def jP39 : List (Nat × Instr × Nat) := [(0, .aload_n 0, 1), (1, .getfield 40, 3), (4, .astore_n 1, 1), (5, .aload_n 1, 1), (6, .ifnonnull 13, 3), (9, .new 253, 3), (12, .dup, 1), (13, .ldc 255, 2), (15, .invokespecial 257, 3), (18, .athrow, 1), (19, .aload_n 1, 1), (20, .areturn, 1)]
set_option maxRecDepth 100000 in
theorem jD39 : ∀ q ∈ jP39, decode prog_1_method_21_code q.1 = .ok q.2 := by decide +kernel
/-- LinkedCores.coreOf(I)LLinkedCores$Core; -/
def jP40 : List (Nat × Instr × Nat) := [(0, .aload_n 0, 1), (1, .invokevirtual 130, 3), (4, .iload_n 1, 1), (5, .invokevirtual 258, 3), (8, .astore_n 2, 1), (9, .aload_n 2, 1), (10, .ifnonnull 14, 3), (13, .new 261, 3), (16, .dup, 1), (17, .ldc_w 263, 3), (20, .invokespecial 265, 3), (23, .athrow, 1), (24, .aload_n 2, 1), (25, .areturn, 1)]
set_option maxRecDepth 100000 in
theorem jD40 : ∀ q ∈ jP40, decode prog_1_method_22_code q.1 = .ok q.2 := by decide +kernel
/-- LinkedCores.build(LLinkedCores$Program;)LLinkedCores$Machine; -/
def jP41 : List (Nat × Instr × Nat) := [(0, .aload_n 0, 1), (1, .getfield 266, 3), (4, .astore_n 2, 1), (5, .aload_n 2, 1), (6, .ifnonnull 16, 3), (9, .new 270, 3), (12, .dup, 1), (13, .invokespecial 272, 3), (16, .astore_n 2, 1), (17, .aload_n 0, 1), (18, .aload_n 2, 1), (19, .putfield 266, 3), (22, .new 91, 3), (25, .dup, 1), (26, .aload_n 1, 1), (27, .invokespecial 273, 3), (30, .astore_n 3, 1), (31, .iconst 0, 1), (32, .istore 4, 2), (34, .iload 4, 2), (36, .bipush 6, 2), (38, .if_icmp .ge 75, 3), (41, .aload_n 1, 1), (42, .getfield 274, 3), (45, .iload 4, 2), (47, .aaload, 1), (48, .astore 5, 2), (50, .aload 5, 2), (52, .ifnonnull 6, 3), (55, .goto 52, 3), (58, .aload_n 2, 1), (59, .aload_n 1, 1), (60, .aload 5, 2), (62, .invokevirtual 278, 3), (65, .aload_n 2, 1), (66, .getfield 282, 3), (69, .ifCond .eq 13, 3), (72, .aload_n 1, 1), (73, .bipush 6, 2), (75, .iconst (-1), 1), (76, .iconst (-1), 1), (77, .invokevirtual 285, 3), (80, .aconst_null, 1), (81, .areturn, 1), (82, .aload_n 3, 1), (83, .getfield 289, 3), (86, .iload 4, 2), (88, .new 103, 3), (91, .dup, 1), (92, .aload_n 3, 1), (93, .aload_n 2, 1), (94, .invokevirtual 293, 3), (97, .aload_n 2, 1), (98, .invokevirtual 297, 3), (101, .aload 5, 2), (103, .invokespecial 299, 3), (106, .aastore, 1), (107, .iinc 4 1, 3), (110, .goto (-76), 3), (113, .aload_n 3, 1), (114, .invokevirtual 166, 3), (117, .aload_n 3, 1), (118, .areturn, 1)]
set_option maxRecDepth 100000 in
theorem jD41 : ∀ q ∈ jP41, decode prog_1_method_23_code q.1 = .ok q.2 := by decide +kernel
/-- LinkedCores$Coder.<init>()V -/
def jP42 : List (Nat × Instr × Nat) := [(0, .aload_n 0, 1), (1, .invokespecial 3, 3), (4, .aload_n 0, 1), (5, .sipush 6000, 3), (8, .newarray .byte, 2), (10, .putfield 9, 3), (13, .aload_n 0, 1), (14, .sipush 6000, 3), (17, .newarray .int, 2), (19, .putfield 15, 3), (22, .aload_n 0, 1), (23, .sipush 6000, 3), (26, .newarray .int, 2), (28, .putfield 19, 3), (31, .aload_n 0, 1), (32, .sipush 6000, 3), (35, .newarray .int, 2), (37, .putfield 22, 3), (40, .aload_n 0, 1), (41, .sipush 6000, 3), (44, .newarray .byte, 2), (46, .putfield 25, 3), (49, .aload_n 0, 1), (50, .sipush 6001, 3), (53, .newarray .int, 2), (55, .putfield 28, 3), (58, .aload_n 0, 1), (59, .sipush 6000, 3), (62, .newarray .int, 2), (64, .putfield 31, 3), (67, .return_, 1)]
set_option maxRecDepth 100000 in
theorem jD42 : ∀ q ∈ jP42, decode prog_2_method_1_code q.1 = .ok q.2 := by decide +kernel
/-- LinkedCores$Coder.translate(LLinkedCores$Program;LLinkedCores$Node;)V -/
def jP43_0 : List (Nat × Instr × Nat) := [(0, .aload_n 0, 1), (1, .iconst 0, 1), (2, .putfield 34, 3), (5, .aload_n 0, 1), (6, .iconst 0, 1), (7, .putfield 38, 3), (10, .aload_n 0, 1), (11, .iconst 0, 1), (12, .putfield 41, 3), (15, .aload_n 0, 1), (16, .iconst 0, 1), (17, .putfield 45, 3), (20, .iconst 0, 1), (21, .istore_n 3, 1), (22, .iload_n 3, 1), (23, .aload_n 1, 1), (24, .getfield 48, 3), (27, .if_icmp .ge 91, 3), (30, .iload_n 3, 1), (31, .aload_n 1, 1), (32, .getfield 53, 3), (35, .arraylength, 1), (36, .if_icmp .ge 82, 3), (39, .aload_n 1, 1), (40, .getfield 53, 3), (43, .iload_n 3, 1), (44, .aaload, 1), (45, .astore 4, 2), (47, .aload 4, 2), (49, .ifnull 63, 3), (52, .aload 4, 2), (54, .aload_n 0, 1), (55, .invokevirtual 57, 3), (58, .putfield 61, 3), (61, .aload_n 0, 1)]
set_option maxRecDepth 100000 in
theorem jD43_0 : ∀ q ∈ jP43_0, decode prog_2_method_2_code q.1 = .ok q.2 := by decide +kernel
def jP43_1 : List (Nat × Instr × Nat) := [(62, .aload 4, 2), (64, .getfield 61, 3), (67, .invokevirtual 66, 3), (70, .aload_n 0, 1), (71, .bipush 11, 2), (73, .aload 4, 2), (75, .getfield 70, 3), (78, .iconst 3, 1), (79, .iadd, 1), (80, .ineg, 1), (81, .invokevirtual 73, 3), (84, .aload_n 0, 1), (85, .aload 4, 2), (87, .getfield 77, 3), (90, .invokevirtual 81, 3), (93, .aload_n 0, 1), (94, .bipush 11, 2), (96, .aload 4, 2), (98, .getfield 70, 3), (101, .iconst 3, 1), (102, .iadd, 1), (103, .invokevirtual 73, 3), (106, .aload_n 0, 1), (107, .bipush 19, 2), (109, .invokevirtual 85, 3), (112, .iinc 3 1, 3), (115, .goto (-93), 3), (118, .aload_n 0, 1), (119, .aload_n 0, 1), (120, .invokevirtual 57, 3), (123, .putfield 88, 3), (126, .aload_n 0, 1), (127, .aload_n 0, 1), (128, .getfield 88, 3), (131, .invokevirtual 66, 3)]
set_option maxRecDepth 100000 in
theorem jD43_1 : ∀ q ∈ jP43_1, decode prog_2_method_2_code q.1 = .ok q.2 := by decide +kernel
def jP43_2 : List (Nat × Instr × Nat) := [(134, .aload_n 0, 1), (135, .aload_n 2, 1), (136, .invokevirtual 81, 3), (139, .aload_n 0, 1), (140, .bipush 31, 2), (142, .invokevirtual 85, 3), (145, .iconst 0, 1), (146, .istore_n 3, 1), (147, .iload_n 3, 1), (148, .aload_n 0, 1), (149, .getfield 34, 3), (152, .if_icmp .ge 39, 3), (155, .aload_n 0, 1), (156, .getfield 25, 3), (159, .iload_n 3, 1), (160, .aload_n 0, 1), (161, .getfield 19, 3), (164, .iload_n 3, 1), (165, .iaload, 1), (166, .iconst (-1), 1), (167, .if_icmp .ne 15, 3), (170, .aload_n 0, 1), (171, .getfield 15, 3), (174, .iload_n 3, 1), (175, .iaload, 1), (176, .invokestatic 91, 3), (179, .goto 4, 3), (182, .iconst 1, 1), (183, .i2b, 1), (184, .bastore, 1), (185, .iinc 3 1, 3), (188, .goto (-41), 3), (191, .iconst 0, 1), (192, .istore_n 3, 1), (193, .iload_n 3, 1)]
set_option maxRecDepth 100000 in
theorem jD43_2 : ∀ q ∈ jP43_2, decode prog_2_method_2_code q.1 = .ok q.2 := by decide +kernel
def jP43_3 : List (Nat × Instr × Nat) := [(194, .ldc 95, 2), (196, .if_icmp .ge 26, 3), (199, .aload_n 0, 1), (200, .getfield 41, 3), (203, .ifCond .ne 19, 3), (206, .aload_n 0, 1), (207, .invokevirtual 96, 3), (210, .ifCond .ne 6, 3), (213, .goto 9, 3), (216, .iinc 3 1, 3), (219, .goto (-26), 3), (222, .return_, 1)]
set_option maxRecDepth 100000 in
theorem jD43_3 : ∀ q ∈ jP43_3, decode prog_2_method_2_code q.1 = .ok q.2 := by decide +kernel
def jP43 : List (Nat × Instr × Nat) := jP43_0 ++ (jP43_1 ++ (jP43_2 ++ (jP43_3)))
theorem jD43 : ∀ q ∈ jP43, decode prog_2_method_2_code q.1 = .ok q.2 := jApp jD43_0 (jApp jD43_1 (jApp jD43_2 jD43_3))
/-- LinkedCores$Coder.start()I -/
def jP44 : List (Nat × Instr × Nat) := [(0, .aload_n 0, 1), (1, .aload_n 0, 1), (2, .getfield 88, 3), (5, .invokevirtual 100, 3), (8, .ireturn, 1)]
set_option maxRecDepth 100000 in
theorem jD44 : ∀ q ∈ jP44, decode prog_2_method_3_code q.1 = .ok q.2 := by decide +kernel
/-- LinkedCores$Coder.bytes()[B -/
def jP45 : List (Nat × Instr × Nat) := [(0, .iconst 0, 1), (1, .aload_n 0, 1), (2, .getfield 28, 3), (5, .aload_n 0, 1), (6, .getfield 34, 3), (9, .iaload, 1), (10, .sipush 6000, 3), (13, .invokestatic 103, 3), (16, .invokestatic 109, 3), (19, .newarray .byte, 2), (21, .astore_n 1, 1), (22, .iconst 0, 1), (23, .istore_n 2, 1), (24, .iload_n 2, 1), (25, .aload_n 0, 1), (26, .getfield 34, 3), (29, .if_icmp .ge 15, 3), (32, .aload_n 0, 1), (33, .aload_n 1, 1), (34, .iload_n 2, 1), (35, .invokevirtual 112, 3), (38, .iinc 2 1, 3), (41, .goto (-17), 3), (44, .aload_n 1, 1), (45, .areturn, 1)]
set_option maxRecDepth 100000 in
theorem jD45 : ∀ q ∈ jP45, decode prog_2_method_4_code q.1 = .ok q.2 := by decide +kernel
/-- LinkedCores$Coder.emit(II)V -/
def jP46 : List (Nat × Instr × Nat) := [(0, .aload_n 0, 1), (1, .getfield 34, 3), (4, .sipush 6000, 3), (7, .if_icmp .lt 9, 3), (10, .aload_n 0, 1), (11, .iconst 1, 1), (12, .putfield 41, 3), (15, .return_, 1), (16, .aload_n 0, 1), (17, .getfield 9, 3), (20, .aload_n 0, 1), (21, .getfield 34, 3), (24, .iload_n 1, 1), (25, .i2b, 1), (26, .bastore, 1), (27, .aload_n 0, 1), (28, .getfield 15, 3), (31, .aload_n 0, 1), (32, .getfield 34, 3), (35, .iload_n 2, 1), (36, .iastore, 1), (37, .aload_n 0, 1), (38, .getfield 19, 3), (41, .aload_n 0, 1), (42, .getfield 34, 3), (45, .iconst (-1), 1), (46, .iastore, 1), (47, .aload_n 0, 1), (48, .dup, 1), (49, .getfield 34, 3), (52, .iconst 1, 1), (53, .iadd, 1), (54, .putfield 34, 3), (57, .return_, 1)]
set_option maxRecDepth 100000 in
theorem jD46 : ∀ q ∈ jP46, decode prog_2_method_5_code q.1 = .ok q.2 := by decide +kernel
/-- LinkedCores$Coder.operation(I)V -/
def jP47 : List (Nat × Instr × Nat) := [(0, .aload_n 0, 1), (1, .bipush 15, 2), (3, .iload_n 1, 1), (4, .invokevirtual 73, 3), (7, .return_, 1)]
set_option maxRecDepth 100000 in
theorem jD47 : ∀ q ∈ jP47, decode prog_2_method_6_code q.1 = .ok q.2 := by decide +kernel
/-- LinkedCores$Coder.way(III)V -/
def jP48 : List (Nat × Instr × Nat) := [(0, .aload_n 0, 1), (1, .getfield 34, 3), (4, .istore 4, 2), (6, .aload_n 0, 1), (7, .iload_n 1, 1), (8, .iconst 0, 1), (9, .invokevirtual 73, 3), (12, .iload 4, 2), (14, .aload_n 0, 1), (15, .getfield 34, 3), (18, .if_icmp .ge 19, 3), (21, .aload_n 0, 1), (22, .getfield 19, 3), (25, .iload 4, 2), (27, .iload_n 2, 1), (28, .iastore, 1), (29, .aload_n 0, 1), (30, .getfield 22, 3), (33, .iload 4, 2), (35, .iload_n 3, 1), (36, .iastore, 1), (37, .return_, 1)]
set_option maxRecDepth 100000 in
theorem jD48 : ∀ q ∈ jP48, decode prog_2_method_7_code q.1 = .ok q.2 := by decide +kernel
/-- LinkedCores$Coder.newLabel()I -/
def jP49 : List (Nat × Instr × Nat) := [(0, .aload_n 0, 1), (1, .getfield 38, 3), (4, .aload_n 0, 1), (5, .getfield 31, 3), (8, .arraylength, 1), (9, .if_icmp .lt 10, 3), (12, .aload_n 0, 1), (13, .iconst 1, 1), (14, .putfield 41, 3), (17, .iconst 0, 1), (18, .ireturn, 1), (19, .aload_n 0, 1), (20, .getfield 31, 3), (23, .aload_n 0, 1), (24, .getfield 38, 3), (27, .iconst 0, 1), (28, .iastore, 1), (29, .aload_n 0, 1), (30, .dup, 1), (31, .getfield 38, 3), (34, .iconst 1, 1), (35, .iadd, 1), (36, .putfield 38, 3), (39, .aload_n 0, 1), (40, .getfield 38, 3), (43, .iconst 1, 1), (44, .isub, 1), (45, .ireturn, 1)]
set_option maxRecDepth 100000 in
theorem jD49 : ∀ q ∈ jP49, decode prog_2_method_8_code q.1 = .ok q.2 := by decide +kernel
/-- LinkedCores$Coder.here(I)V -/
def jP50 : List (Nat × Instr × Nat) := [(0, .iload_n 1, 1), (1, .ifCond .lt 22, 3), (4, .iload_n 1, 1), (5, .aload_n 0, 1), (6, .getfield 31, 3), (9, .arraylength, 1), (10, .if_icmp .ge 13, 3), (13, .aload_n 0, 1), (14, .getfield 31, 3), (17, .iload_n 1, 1), (18, .aload_n 0, 1), (19, .getfield 34, 3), (22, .iastore, 1), (23, .return_, 1)]
set_option maxRecDepth 100000 in
theorem jD50 : ∀ q ∈ jP50, decode prog_2_method_9_code q.1 = .ok q.2 := by decide +kernel
/-- LinkedCores$Coder.placeOf(I)I -/
def jP51 : List (Nat × Instr × Nat) := [(0, .iload_n 1, 1), (1, .ifCond .lt 21, 3), (4, .iload_n 1, 1), (5, .aload_n 0, 1), (6, .getfield 31, 3), (9, .arraylength, 1), (10, .if_icmp .ge 12, 3), (13, .aload_n 0, 1), (14, .getfield 31, 3), (17, .iload_n 1, 1), (18, .iaload, 1), (19, .goto 4, 3), (22, .iconst 0, 1), (23, .istore_n 2, 1), (24, .iload_n 2, 1), (25, .ifCond .lt 21, 3), (28, .iload_n 2, 1), (29, .aload_n 0, 1), (30, .getfield 28, 3), (33, .arraylength, 1), (34, .if_icmp .ge 12, 3), (37, .aload_n 0, 1), (38, .getfield 28, 3), (41, .iload_n 2, 1), (42, .iaload, 1), (43, .goto 4, 3), (46, .iconst 0, 1), (47, .ireturn, 1)]
set_option maxRecDepth 100000 in
theorem jD51 : ∀ q ∈ jP51, decode prog_2_method_10_code q.1 = .ok q.2 := by decide +kernel
/-- LinkedCores$Coder.lengthOf(I)I -/
def jP52 : List (Nat × Instr × Nat) := [(0, .iload_n 0, 1), (1, .ifCond .ge 11, 3), (4, .iload_n 0, 1), (5, .iconst (-1), 1), (6, .ixor, 1), (7, .iconst 4, 1), (8, .iushr, 1), (9, .goto 6, 3), (12, .iload_n 0, 1), (13, .iconst 4, 1), (14, .iushr, 1), (15, .istore_n 1, 1), (16, .iload_n 0, 1), (17, .ifCond .ge 7, 3), (20, .iconst 2, 1), (21, .goto 4, 3), (24, .iconst 1, 1), (25, .istore_n 2, 1), (26, .iload_n 0, 1), (27, .ifCond .ge 7, 3), (30, .iload_n 1, 1), (31, .iconst 4, 1), (32, .iushr, 1), (33, .istore_n 1, 1), (34, .iconst 0, 1), (35, .istore_n 3, 1), (36, .iload_n 3, 1), (37, .bipush 8, 2), (39, .if_icmp .ge 20, 3), (42, .iload_n 1, 1), (43, .ifCond .eq 16, 3), (46, .iload_n 1, 1), (47, .iconst 4, 1), (48, .iushr, 1), (49, .istore_n 1, 1), (50, .iinc 2 1, 3), (53, .iinc 3 1, 3), (56, .goto (-20), 3), (59, .iload_n 2, 1), (60, .ireturn, 1)]
set_option maxRecDepth 100000 in
theorem jD52 : ∀ q ∈ jP52, decode prog_2_method_11_code q.1 = .ok q.2 := by decide +kernel
/-- LinkedCores$Coder.lengthen()Z -/
def jP53_0 : List (Nat × Instr × Nat) := [(0, .aload_n 0, 1), (1, .getfield 28, 3), (4, .iconst 0, 1), (5, .iconst 0, 1), (6, .iastore, 1), (7, .iconst 0, 1), (8, .istore_n 1, 1), (9, .iload_n 1, 1), (10, .aload_n 0, 1), (11, .getfield 34, 3), (14, .if_icmp .ge 30, 3), (17, .aload_n 0, 1), (18, .getfield 28, 3), (21, .iload_n 1, 1), (22, .iconst 1, 1), (23, .iadd, 1), (24, .aload_n 0, 1), (25, .getfield 28, 3), (28, .iload_n 1, 1), (29, .iaload, 1), (30, .aload_n 0, 1), (31, .getfield 25, 3), (34, .iload_n 1, 1), (35, .baload, 1), (36, .iadd, 1), (37, .iastore, 1), (38, .iinc 1 1, 3), (41, .goto (-32), 3), (44, .aload_n 0, 1), (45, .getfield 28, 3), (48, .aload_n 0, 1), (49, .getfield 34, 3), (52, .iaload, 1), (53, .sipush 6000, 3), (56, .if_icmp .le 10, 3), (59, .aload_n 0, 1), (60, .iconst 1, 1), (61, .putfield 41, 3), (64, .iconst 0, 1), (65, .ireturn, 1), (66, .iconst 0, 1), (67, .istore_n 1, 1), (68, .iconst 0, 1), (69, .istore_n 2, 1), (70, .iload_n 2, 1), (71, .aload_n 0, 1), (72, .getfield 34, 3), (75, .if_icmp .ge 71, 3), (78, .aload_n 0, 1), (79, .getfield 19, 3), (82, .iload_n 2, 1), (83, .iaload, 1), (84, .iconst (-1), 1), (85, .if_icmp .eq 55, 3)]
set_option maxRecDepth 100000 in
theorem jD53_0 : ∀ q ∈ jP53_0, decode prog_2_method_12_code q.1 = .ok q.2 := by decide +kernel
def jP53_1 : List (Nat × Instr × Nat) := [(88, .aload_n 0, 1), (89, .getfield 15, 3), (92, .iload_n 2, 1), (93, .aload_n 0, 1), (94, .aload_n 0, 1), (95, .getfield 19, 3), (98, .iload_n 2, 1), (99, .iaload, 1), (100, .invokevirtual 100, 3), (103, .aload_n 0, 1), (104, .iload_n 2, 1), (105, .invokevirtual 116, 3), (108, .isub, 1), (109, .iastore, 1), (110, .aload_n 0, 1), (111, .getfield 15, 3), (114, .iload_n 2, 1), (115, .iaload, 1), (116, .invokestatic 91, 3), (119, .istore_n 3, 1), (120, .iload_n 3, 1), (121, .aload_n 0, 1), (122, .getfield 25, 3), (125, .iload_n 2, 1), (126, .baload, 1), (127, .if_icmp .le 13, 3), (130, .aload_n 0, 1), (131, .getfield 25, 3), (134, .iload_n 2, 1), (135, .iload_n 3, 1), (136, .i2b, 1), (137, .bastore, 1), (138, .iconst 1, 1), (139, .istore_n 1, 1), (140, .iinc 2 1, 3), (143, .goto (-73), 3), (146, .iload_n 1, 1), (147, .ireturn, 1)]
set_option maxRecDepth 100000 in
theorem jD53_1 : ∀ q ∈ jP53_1, decode prog_2_method_12_code q.1 = .ok q.2 := by decide +kernel
def jP53 : List (Nat × Instr × Nat) := jP53_0 ++ (jP53_1)
theorem jD53 : ∀ q ∈ jP53, decode prog_2_method_12_code q.1 = .ok q.2 := jApp jD53_0 jD53_1
/-- LinkedCores$Coder.originOf(I)I -/
def jP54 : List (Nat × Instr × Nat) := [(0, .aload_n 0, 1), (1, .getfield 22, 3), (4, .iload_n 1, 1), (5, .iaload, 1), (6, .ifCond .lt 14, 3), (9, .aload_n 0, 1), (10, .aload_n 0, 1), (11, .getfield 22, 3), (14, .iload_n 1, 1), (15, .iaload, 1), (16, .invokevirtual 100, 3), (19, .ireturn, 1), (20, .aload_n 0, 1), (21, .getfield 22, 3), (24, .iload_n 1, 1), (25, .iaload, 1), (26, .iconst (-1), 1), (27, .if_icmp .ne 9, 3), (30, .iload_n 1, 1), (31, .iconst 1, 1), (32, .iadd, 1), (33, .goto 6, 3), (36, .iload_n 1, 1), (37, .iconst 2, 1), (38, .iadd, 1), (39, .istore_n 2, 1), (40, .aload_n 0, 1), (41, .getfield 28, 3), (44, .iload_n 2, 1), (45, .aload_n 0, 1), (46, .getfield 34, 3), (49, .invokestatic 103, 3), (52, .iaload, 1), (53, .ireturn, 1)]
set_option maxRecDepth 100000 in
theorem jD54 : ∀ q ∈ jP54, decode prog_2_method_13_code q.1 = .ok q.2 := by decide +kernel
/-- LinkedCores$Coder.write([BI)V -/
def jP55 : List (Nat × Instr × Nat) := [(0, .aload_n 0, 1), (1, .getfield 28, 3), (4, .iload_n 2, 1), (5, .iconst 1, 1), (6, .iadd, 1), (7, .iaload, 1), (8, .iconst 1, 1), (9, .isub, 1), (10, .istore_n 3, 1), (11, .aload_n 0, 1), (12, .getfield 15, 3), (15, .iload_n 2, 1), (16, .iaload, 1), (17, .istore 4, 2), (19, .aload_n 1, 1), (20, .iload_n 3, 1), (21, .aload_n 0, 1), (22, .getfield 9, 3), (25, .iload_n 2, 1), (26, .baload, 1), (27, .iload 4, 2), (29, .invokestatic 119, 3), (32, .iload 4, 2), (34, .ifCond .ge 12, 3), (37, .iload 4, 2), (39, .iconst (-1), 1), (40, .ixor, 1), (41, .iconst 4, 1), (42, .iushr, 1), (43, .goto 7, 3), (46, .iload 4, 2), (48, .iconst 4, 1), (49, .iushr, 1), (50, .istore 5, 2), (52, .iload_n 3, 1), (53, .iconst 1, 1), (54, .isub, 1), (55, .istore 6, 2), (57, .iload 6, 2), (59, .aload_n 0, 1), (60, .getfield 28, 3), (63, .iload_n 2, 1), (64, .iaload, 1), (65, .if_icmp .lt 42, 3), (68, .aload_n 1, 1), (69, .iload 6, 2), (71, .iload 4, 2), (73, .ifCond .ge 16, 3), (76, .iload 6, 2), (78, .iload_n 3, 1), (79, .iconst 1, 1), (80, .isub, 1), (81, .if_icmp .ne 8, 3), (84, .bipush 6, 2), (86, .goto 4, 3), (89, .iconst 2, 1), (90, .iload 5, 2), (92, .invokestatic 119, 3), (95, .iload 5, 2), (97, .iconst 4, 1), (98, .iushr, 1), (99, .istore 5, 2), (101, .iinc 6 (-1), 3), (104, .goto (-47), 3), (107, .return_, 1)]
set_option maxRecDepth 100000 in
theorem jD55 : ∀ q ∈ jP55, decode prog_2_method_14_code q.1 = .ok q.2 := by decide +kernel
/-- LinkedCores$Coder.store([BIII)V -/
def jP56 : List (Nat × Instr × Nat) := [(0, .iload_n 1, 1), (1, .ifCond .lt 21, 3), (4, .iload_n 1, 1), (5, .aload_n 0, 1), (6, .arraylength, 1), (7, .if_icmp .ge 15, 3), (10, .aload_n 0, 1), (11, .iload_n 1, 1), (12, .iload_n 2, 1), (13, .iconst 4, 1), (14, .ishl, 1), (15, .iload_n 3, 1), (16, .bipush 15, 2), (18, .iand, 1), (19, .ior, 1), (20, .i2b, 1), (21, .bastore, 1), (22, .return_, 1)]
set_option maxRecDepth 100000 in
theorem jD56 : ∀ q ∈ jP56, decode prog_2_method_15_code q.1 = .ok q.2 := by decide +kernel
/-- LinkedCores$Coder.isPlain(LLinkedCores$Node;)Z -/
def jP57 : List (Nat × Instr × Nat) := [(0, .aload_n 0, 1), (1, .ifnull 32, 3), (4, .aload_n 0, 1), (5, .getfield 123, 3), (8, .bipush 20, 2), (10, .if_icmp .eq 19, 3), (13, .aload_n 0, 1), (14, .getfield 123, 3), (17, .bipush 21, 2), (19, .if_icmp .ne 14, 3), (22, .aload_n 0, 1), (23, .getfield 128, 3), (26, .ifnonnull 7, 3), (29, .iconst 1, 1), (30, .goto 4, 3), (33, .iconst 0, 1), (34, .ireturn, 1)]
set_option maxRecDepth 100000 in
theorem jD57 : ∀ q ∈ jP57, decode prog_2_method_16_code q.1 = .ok q.2 := by decide +kernel
/-- LinkedCores$Coder.keepsRight(LLinkedCores$Node;)Z -/
def jP58 : List (Nat × Instr × Nat) := [(0, .aload_n 0, 1), (1, .getfield 123, 3), (4, .bipush 22, 2), (6, .if_icmp .ne 25, 3), (9, .aload_n 0, 1), (10, .getfield 131, 3), (13, .bipush 26, 2), (15, .if_icmp .eq 16, 3), (18, .aload_n 0, 1), (19, .getfield 131, 3), (22, .bipush 27, 2), (24, .if_icmp .eq 7, 3), (27, .iconst 1, 1), (28, .goto 4, 3), (31, .iconst 0, 1), (32, .istore_n 1, 1), (33, .iload_n 1, 1), (34, .ifCond .eq 17, 3), (37, .aload_n 0, 1), (38, .getfield 136, 3), (41, .invokestatic 139, 3), (44, .ifCond .ne 7, 3), (47, .iconst 1, 1), (48, .goto 4, 3), (51, .iconst 0, 1), (52, .ireturn, 1)]
set_option maxRecDepth 100000 in
theorem jD58 : ∀ q ∈ jP58, decode prog_2_method_17_code q.1 = .ok q.2 := by decide +kernel
/-- LinkedCores$Coder.value(LLinkedCores$Node;)V -/
def jP59 : List (Nat × Instr × Nat) := [(0, .aload_n 1, 1), (1, .ifnull 10, 3), (4, .aload_n 0, 1), (5, .getfield 41, 3), (8, .ifCond .eq 4, 3), (11, .return_, 1), (12, .aload_n 1, 1), (13, .getfield 123, 3), (16, .tableswitch 101 20 24 #[36, 48, 101, 56, 83], 36), (52, .aload_n 0, 1), (53, .iconst 4, 1), (54, .aload_n 1, 1), (55, .getfield 131, 3), (58, .invokevirtual 73, 3), (61, .goto 61, 3), (64, .aload_n 0, 1), (65, .aload_n 1, 1), (66, .invokevirtual 143, 3), (69, .goto 53, 3), (72, .aload_n 0, 1), (73, .aload_n 1, 1), (74, .getfield 128, 3), (77, .invokevirtual 146, 3), (80, .aload_n 0, 1), (81, .iconst 4, 1), (82, .iconst 0, 1), (83, .invokevirtual 73, 3), (86, .aload_n 0, 1), (87, .iconst 0, 1), (88, .invokevirtual 85, 3), (91, .aload_n 0, 1), (92, .iconst 2, 1), (93, .invokevirtual 85, 3), (96, .goto 26, 3), (99, .aload_n 0, 1), (100, .aload_n 1, 1), (101, .getfield 128, 3), (104, .invokevirtual 146, 3), (107, .aload_n 0, 1), (108, .bipush 12, 2), (110, .iconst 0, 1), (111, .invokevirtual 73, 3), (114, .goto 8, 3), (117, .aload_n 0, 1), (118, .aload_n 1, 1), (119, .invokevirtual 148, 3), (122, .return_, 1)]
set_option maxRecDepth 100000 in
theorem jD59 : ∀ q ∈ jP59, decode prog_2_method_18_code q.1 = .ok q.2 := by decide +kernel
/-- LinkedCores$Coder.valueOfPart(LLinkedCores$Node;)V -/
def jP60 : List (Nat × Instr × Nat) := [(0, .aload_n 1, 1), (1, .getfield 151, 3), (4, .astore_n 2, 1), (5, .aload_n 2, 1), (6, .ifnonnull 4, 3), (9, .return_, 1), (10, .aload_n 2, 1), (11, .getfield 155, 3), (14, .iconst 4, 1), (15, .if_icmp .ne 15, 3), (18, .aload_n 0, 1), (19, .iconst 4, 1), (20, .aload_n 2, 1), (21, .getfield 156, 3), (24, .invokevirtual 73, 3), (27, .goto 43, 3), (30, .aload_n 2, 1), (31, .getfield 155, 3), (34, .iconst 2, 1), (35, .if_icmp .eq 10, 3), (38, .aload_n 1, 1), (39, .getfield 128, 3), (42, .ifnull 17, 3), (45, .aload_n 0, 1), (46, .aload_n 1, 1), (47, .invokevirtual 157, 3), (50, .aload_n 0, 1), (51, .iconst 3, 1), (52, .iconst 0, 1), (53, .invokevirtual 73, 3), (56, .goto 14, 3), (59, .aload_n 0, 1), (60, .bipush 7, 2), (62, .aload_n 0, 1), (63, .aload_n 2, 1), (64, .invokevirtual 160, 3), (67, .invokevirtual 73, 3), (70, .return_, 1)]
set_option maxRecDepth 100000 in
theorem jD60 : ∀ q ∈ jP60, decode prog_2_method_19_code q.1 = .ok q.2 := by decide +kernel
/-- LinkedCores$Coder.wordOf(LLinkedCores$Name;)I -/
def jP61 : List (Nat × Instr × Nat) := [(0, .aload_n 1, 1), (1, .getfield 164, 3), (4, .aload_n 1, 1), (5, .getfield 165, 3), (8, .iadd, 1), (9, .aload_n 0, 1), (10, .getfield 45, 3), (13, .isub, 1), (14, .ireturn, 1)]
set_option maxRecDepth 100000 in
theorem jD61 : ∀ q ∈ jP61, decode prog_2_method_20_code q.1 = .ok q.2 := by decide +kernel
/-- LinkedCores$Coder.address(LLinkedCores$Node;)V -/
def jP62_0 : List (Nat × Instr × Nat) := [(0, .aload_n 1, 1), (1, .ifnull 17, 3), (4, .aload_n 1, 1), (5, .getfield 151, 3), (8, .ifnull 10, 3), (11, .aload_n 0, 1), (12, .getfield 41, 3), (15, .ifCond .eq 4, 3), (18, .return_, 1), (19, .aload_n 1, 1), (20, .getfield 151, 3), (23, .astore_n 2, 1), (24, .aload_n 1, 1), (25, .getfield 128, 3), (28, .ifnull 26, 3), (31, .aload_n 0, 1), (32, .aload_n 1, 1), (33, .getfield 128, 3), (36, .invokevirtual 146, 3), (39, .aload_n 0, 1), (40, .iconst 4, 1), (41, .aload_n 2, 1), (42, .getfield 70, 3), (45, .invokevirtual 73, 3), (48, .aload_n 0, 1), (49, .bipush 12, 2), (51, .invokevirtual 85, 3), (54, .aload_n 2, 1), (55, .getfield 155, 3), (58, .iconst 2, 1), (59, .if_icmp .eq 21, 3), (62, .aload_n 2, 1), (63, .getfield 155, 3), (66, .bipush 6, 2), (68, .if_icmp .eq 12, 3), (71, .aload_n 2, 1), (72, .getfield 155, 3), (75, .bipush 8, 2), (77, .if_icmp .ne 7, 3), (80, .iconst 1, 1), (81, .goto 4, 3), (84, .iconst 0, 1), (85, .istore_n 3, 1), (86, .aload_n 2, 1), (87, .getfield 155, 3), (90, .bipush 10, 2), (92, .if_icmp .ne 15, 3), (95, .aload_n 0, 1), (96, .iconst 4, 1), (97, .aload_n 2, 1), (98, .getfield 165, 3), (101, .invokevirtual 73, 3), (104, .goto 22, 3), (107, .aload_n 0, 1), (108, .iload_n 3, 1), (109, .ifCond .eq 8, 3), (112, .bipush 7, 2)]
set_option maxRecDepth 100000 in
theorem jD62_0 : ∀ q ∈ jP62_0, decode prog_2_method_21_code q.1 = .ok q.2 := by decide +kernel
def jP62_1 : List (Nat × Instr × Nat) := [(114, .goto 4, 3), (117, .iconst 1, 1), (118, .aload_n 0, 1), (119, .aload_n 2, 1), (120, .invokevirtual 160, 3), (123, .invokevirtual 73, 3), (126, .aload_n 1, 1), (127, .getfield 128, 3), (130, .ifnull 9, 3), (133, .aload_n 0, 1), (134, .bipush 11, 2), (136, .invokevirtual 85, 3), (139, .return_, 1)]
set_option maxRecDepth 100000 in
theorem jD62_1 : ∀ q ∈ jP62_1, decode prog_2_method_21_code q.1 = .ok q.2 := by decide +kernel
def jP62 : List (Nat × Instr × Nat) := jP62_0 ++ (jP62_1)
theorem jD62 : ∀ q ∈ jP62, decode prog_2_method_21_code q.1 = .ok q.2 := jApp jD62_0 jD62_1
/-- LinkedCores$Coder.binary(LLinkedCores$Node;)V -/
def jP63 : List (Nat × Instr × Nat) := [(0, .aload_n 1, 1), (1, .getfield 131, 3), (4, .bipush 26, 2), (6, .if_icmp .eq 12, 3), (9, .aload_n 1, 1), (10, .getfield 131, 3), (13, .bipush 27, 2), (15, .if_icmp .ne 11, 3), (18, .aload_n 0, 1), (19, .aload_n 1, 1), (20, .invokevirtual 168, 3), (23, .goto 81, 3), (26, .aload_n 1, 1), (27, .invokestatic 171, 3), (30, .ifCond .eq 50, 3), (33, .aload_n 0, 1), (34, .aload_n 1, 1), (35, .getfield 136, 3), (38, .invokevirtual 146, 3), (41, .aload_n 0, 1), (42, .bipush 13, 2), (44, .aload_n 1, 1), (45, .getfield 174, 3), (48, .invokevirtual 73, 3), (51, .aload_n 0, 1), (52, .aload_n 1, 1), (53, .getfield 128, 3), (56, .invokevirtual 146, 3), (59, .aload_n 0, 1), (60, .bipush 7, 2), (62, .aload_n 1, 1), (63, .getfield 174, 3), (66, .invokevirtual 73, 3), (69, .aload_n 0, 1), (70, .aload_n 1, 1), (71, .getfield 131, 3), (74, .invokevirtual 175, 3), (77, .goto 27, 3), (80, .aload_n 0, 1), (81, .aload_n 1, 1), (82, .getfield 128, 3), (85, .invokevirtual 146, 3), (88, .aload_n 0, 1), (89, .aload_n 1, 1), (90, .getfield 136, 3), (93, .invokevirtual 146, 3), (96, .aload_n 0, 1), (97, .aload_n 1, 1), (98, .getfield 131, 3), (101, .invokevirtual 175, 3), (104, .return_, 1)]
set_option maxRecDepth 100000 in
theorem jD63 : ∀ q ∈ jP63, decode prog_2_method_22_code q.1 = .ok q.2 := by decide +kernel
/-- LinkedCores$Coder.logical(LLinkedCores$Node;)V -/
def jP64 : List (Nat × Instr × Nat) := [(0, .aload_n 0, 1), (1, .invokevirtual 57, 3), (4, .istore_n 2, 1), (5, .aload_n 0, 1), (6, .aload_n 1, 1), (7, .getfield 128, 3), (10, .invokevirtual 146, 3), (13, .aload_n 1, 1), (14, .getfield 131, 3), (17, .bipush 27, 2), (19, .if_icmp .ne 10, 3), (22, .aload_n 0, 1), (23, .bipush 12, 2), (25, .iconst 0, 1), (26, .invokevirtual 73, 3), (29, .aload_n 0, 1), (30, .bipush 10, 2), (32, .iload_n 2, 1), (33, .iconst (-1), 1), (34, .invokevirtual 178, 3), (37, .aload_n 0, 1), (38, .aload_n 1, 1), (39, .getfield 136, 3), (42, .invokevirtual 146, 3), (45, .aload_n 0, 1), (46, .bipush 12, 2), (48, .iconst 0, 1), (49, .invokevirtual 73, 3), (52, .aload_n 1, 1), (53, .getfield 131, 3), (56, .bipush 26, 2), (58, .if_icmp .ne 10, 3), (61, .aload_n 0, 1), (62, .bipush 12, 2), (64, .iconst 0, 1), (65, .invokevirtual 73, 3), (68, .aload_n 0, 1), (69, .iload_n 2, 1), (70, .invokevirtual 66, 3), (73, .aload_n 1, 1), (74, .getfield 131, 3), (77, .bipush 27, 2), (79, .if_icmp .ne 10, 3), (82, .aload_n 0, 1), (83, .bipush 12, 2), (85, .iconst 0, 1), (86, .invokevirtual 73, 3), (89, .return_, 1)]
set_option maxRecDepth 100000 in
theorem jD64 : ∀ q ∈ jP64, decode prog_2_method_23_code q.1 = .ok q.2 := by decide +kernel
/-- LinkedCores$Coder.operator(I)V -/
def jP65_0 : List (Nat × Instr × Nat) := [(0, .iload_n 1, 1), (1, .tableswitch 202 42 65 #[193, 179, 143, 152, 161, 170, 202, 202, 202, 202, 202, 202, 202, 202, 202, 202, 202, 179, 193, 111, 202, 119, 127, 135], 111), (112, .aload_n 0, 1), (113, .iconst 1, 1), (114, .invokevirtual 85, 3), (117, .goto 91, 3), (120, .aload_n 0, 1), (121, .iconst 3, 1), (122, .invokevirtual 85, 3), (125, .goto 83, 3), (128, .aload_n 0, 1), (129, .iconst 4, 1), (130, .invokevirtual 85, 3), (133, .goto 75, 3), (136, .aload_n 0, 1), (137, .iconst 5, 1), (138, .invokevirtual 85, 3), (141, .goto 67, 3), (144, .aload_n 0, 1), (145, .bipush 9, 2), (147, .invokevirtual 85, 3), (150, .goto 58, 3), (153, .aload_n 0, 1), (154, .bipush 10, 2), (156, .invokevirtual 85, 3), (159, .goto 49, 3), (162, .aload_n 0, 1), (163, .bipush 7, 2), (165, .invokevirtual 85, 3), (168, .goto 40, 3)]
set_option maxRecDepth 100000 in
theorem jD65_0 : ∀ q ∈ jP65_0, decode prog_2_method_24_code q.1 = .ok q.2 := by decide +kernel
def jP65_1 : List (Nat × Instr × Nat) := [(171, .aload_n 0, 1), (172, .bipush 8, 2), (174, .invokevirtual 85, 3), (177, .goto 31, 3), (180, .aload_n 0, 1), (181, .iconst 0, 1), (182, .invokevirtual 85, 3), (185, .aload_n 0, 1), (186, .bipush 6, 2), (188, .invokevirtual 85, 3), (191, .goto 17, 3), (194, .aload_n 0, 1), (195, .bipush 6, 2), (197, .invokevirtual 85, 3), (200, .goto 8, 3), (203, .aload_n 0, 1), (204, .iconst 2, 1), (205, .invokevirtual 85, 3), (208, .iload_n 1, 1), (209, .bipush 41, 2), (211, .if_icmp .ne 7, 3), (214, .iconst 1, 1), (215, .goto 4, 3), (218, .iconst 0, 1), (219, .istore_n 2, 1), (220, .iload_n 2, 1), (221, .ifCond .ne 21, 3), (224, .iload_n 1, 1), (225, .bipush 58, 2), (227, .if_icmp .eq 15, 3)]
set_option maxRecDepth 100000 in
theorem jD65_1 : ∀ q ∈ jP65_1, decode prog_2_method_24_code q.1 = .ok q.2 := by decide +kernel
def jP65_2 : List (Nat × Instr × Nat) := [(230, .iload_n 1, 1), (231, .bipush 42, 2), (233, .if_icmp .eq 9, 3), (236, .iload_n 1, 1), (237, .bipush 43, 2), (239, .if_icmp .ne 10, 3), (242, .aload_n 0, 1), (243, .bipush 12, 2), (245, .iconst 0, 1), (246, .invokevirtual 73, 3), (249, .iload_n 2, 1), (250, .ifCond .eq 10, 3), (253, .aload_n 0, 1), (254, .bipush 12, 2), (256, .iconst 0, 1), (257, .invokevirtual 73, 3), (260, .return_, 1)]
set_option maxRecDepth 100000 in
theorem jD65_2 : ∀ q ∈ jP65_2, decode prog_2_method_24_code q.1 = .ok q.2 := by decide +kernel
def jP65 : List (Nat × Instr × Nat) := jP65_0 ++ (jP65_1 ++ (jP65_2))
theorem jD65 : ∀ q ∈ jP65, decode prog_2_method_24_code q.1 = .ok q.2 := jApp jD65_0 (jApp jD65_1 jD65_2)
/-- LinkedCores$Coder.process(LLinkedCores$Node;)V -/
def jP66_0 : List (Nat × Instr × Nat) := [(0, .aload_n 1, 1), (1, .ifnull 10, 3), (4, .aload_n 0, 1), (5, .getfield 41, 3), (8, .ifCond .eq 4, 3), (11, .return_, 1), (12, .aload_n 1, 1), (13, .getfield 182, 3), (16, .astore_n 2, 1), (17, .aload_n 2, 1), (18, .ifnull 16, 3), (21, .aload_n 0, 1), (22, .aload_n 2, 1), (23, .invokevirtual 185, 3), (26, .aload_n 2, 1), (27, .getfield 189, 3), (30, .astore_n 2, 1), (31, .goto (-14), 3), (34, .aload_n 1, 1), (35, .getfield 123, 3), (38, .tableswitch 188 0 13 #[70, 73, 82, 90, 115, 140, 188, 148, 172, 172, 172, 156, 164, 180], 70), (108, .goto 140, 3), (111, .aload_n 0, 1), (112, .bipush 18, 2), (114, .invokevirtual 85, 3), (117, .goto 131, 3), (120, .aload_n 0, 1), (121, .aload_n 1, 1), (122, .invokevirtual 192, 3), (125, .goto 123, 3), (128, .aload_n 0, 1), (129, .aload_n 1, 1)]
set_option maxRecDepth 100000 in
theorem jD66_0 : ∀ q ∈ jP66_0, decode prog_2_method_25_code q.1 = .ok q.2 := by decide +kernel
def jP66_1 : List (Nat × Instr × Nat) := [(130, .getfield 136, 3), (133, .invokevirtual 146, 3), (136, .aload_n 0, 1), (137, .aload_n 1, 1), (138, .getfield 128, 3), (141, .invokevirtual 157, 3), (144, .aload_n 0, 1), (145, .bipush 21, 2), (147, .invokevirtual 85, 3), (150, .goto 98, 3), (153, .aload_n 0, 1), (154, .aload_n 1, 1), (155, .getfield 136, 3), (158, .invokevirtual 157, 3), (161, .aload_n 0, 1), (162, .aload_n 1, 1), (163, .getfield 128, 3), (166, .invokevirtual 157, 3), (169, .aload_n 0, 1), (170, .bipush 20, 2), (172, .invokevirtual 85, 3), (175, .goto 73, 3), (178, .aload_n 0, 1), (179, .aload_n 1, 1), (180, .invokevirtual 195, 3), (183, .goto 65, 3), (186, .aload_n 0, 1), (187, .aload_n 1, 1), (188, .invokevirtual 198, 3), (191, .goto 57, 3), (194, .aload_n 0, 1), (195, .aload_n 1, 1)]
set_option maxRecDepth 100000 in
theorem jD66_1 : ∀ q ∈ jP66_1, decode prog_2_method_25_code q.1 = .ok q.2 := by decide +kernel
def jP66_2 : List (Nat × Instr × Nat) := [(196, .invokevirtual 201, 3), (199, .goto 49, 3), (202, .aload_n 0, 1), (203, .aload_n 1, 1), (204, .invokevirtual 204, 3), (207, .goto 41, 3), (210, .aload_n 0, 1), (211, .aload_n 1, 1), (212, .invokevirtual 207, 3), (215, .goto 33, 3), (218, .aload_n 0, 1), (219, .aload_n 1, 1), (220, .invokevirtual 210, 3), (223, .goto 25, 3), (226, .aload_n 1, 1), (227, .getfield 128, 3), (230, .astore_n 2, 1), (231, .aload_n 2, 1), (232, .ifnull 16, 3), (235, .aload_n 0, 1), (236, .aload_n 2, 1), (237, .invokevirtual 81, 3), (240, .aload_n 2, 1), (241, .getfield 213, 3), (244, .astore_n 2, 1), (245, .goto (-14), 3), (248, .return_, 1)]
set_option maxRecDepth 100000 in
theorem jD66_2 : ∀ q ∈ jP66_2, decode prog_2_method_25_code q.1 = .ok q.2 := by decide +kernel
def jP66 : List (Nat × Instr × Nat) := jP66_0 ++ (jP66_1 ++ (jP66_2))
theorem jD66 : ∀ q ∈ jP66, decode prog_2_method_25_code q.1 = .ok q.2 := jApp jD66_0 (jApp jD66_1 jD66_2)
/-- LinkedCores$Coder.declare(LLinkedCores$Name;)V -/
def jP67 : List (Nat × Instr × Nat) := [(0, .aload_n 1, 1), (1, .aload_n 0, 1), (2, .getfield 45, 3), (5, .putfield 164, 3), (8, .aload_n 0, 1), (9, .iconst 4, 1), (10, .aload_n 1, 1), (11, .invokevirtual 216, 3), (14, .ifCond .eq 7, 3), (17, .iconst (-1), 1), (18, .goto 4, 3), (21, .iconst 0, 1), (22, .invokevirtual 73, 3), (25, .aload_n 0, 1), (26, .iconst 4, 1), (27, .aload_n 1, 1), (28, .getfield 70, 3), (31, .invokevirtual 73, 3), (34, .aload_n 0, 1), (35, .iconst 1, 1), (36, .aload_n 1, 1), (37, .getfield 165, 3), (40, .invokevirtual 73, 3), (43, .aload_n 0, 1), (44, .bipush 14, 2), (46, .invokevirtual 85, 3), (49, .return_, 1)]
set_option maxRecDepth 100000 in
theorem jD67 : ∀ q ∈ jP67, decode prog_2_method_26_code q.1 = .ok q.2 := by decide +kernel
/-- LinkedCores$Coder.assign(LLinkedCores$Node;)V -/
def jP68 : List (Nat × Instr × Nat) := [(0, .aload_n 0, 1), (1, .aload_n 1, 1), (2, .getfield 136, 3), (5, .invokevirtual 146, 3), (8, .aload_n 1, 1), (9, .getfield 128, 3), (12, .ifnull 13, 3), (15, .aload_n 1, 1), (16, .getfield 128, 3), (19, .getfield 151, 3), (22, .ifnonnull 4, 3), (25, .return_, 1), (26, .aload_n 1, 1), (27, .getfield 128, 3), (30, .getfield 151, 3), (33, .getfield 155, 3), (36, .ifCond .ne 23, 3), (39, .aload_n 0, 1), (40, .bipush 13, 2), (42, .aload_n 0, 1), (43, .aload_n 1, 1), (44, .getfield 128, 3), (47, .getfield 151, 3), (50, .invokevirtual 160, 3), (53, .invokevirtual 73, 3), (56, .goto 18, 3), (59, .aload_n 0, 1), (60, .aload_n 1, 1), (61, .getfield 128, 3), (64, .invokevirtual 157, 3), (67, .aload_n 0, 1), (68, .bipush 14, 2), (70, .iconst 0, 1), (71, .invokevirtual 73, 3), (74, .return_, 1)]
set_option maxRecDepth 100000 in
theorem jD68 : ∀ q ∈ jP68, decode prog_2_method_27_code q.1 = .ok q.2 := by decide +kernel
