/-- LinkedCoresLaw.put(LLinkedCores;I[J)I -/
def jP0 : List (Nat × Instr × Nat) := [(0, .aload_n 2, 1), (1, .iconst 0, 1), (2, .aload_n 0, 1), (3, .iload_n 1, 1), (4, .invokevirtual 7, 3), (7, .i2l, 1), (8, .lastore, 1), (9, .goto 9, 3), (12, .astore_n 3, 1), (13, .iconst 1, 1), (14, .ireturn, 1), (15, .astore_n 3, 1), (16, .iconst 2, 1), (17, .ireturn, 1), (18, .iconst 0, 1), (19, .ireturn, 1)]
set_option maxRecDepth 100000 in
theorem jD0 : ∀ q ∈ jP0, decode method_3_code q.1 = .ok q.2 := by decide +kernel
/-- LinkedCoresLaw.end(LLinkedCores;I)I -/
def jP1 : List (Nat × Instr × Nat) := [(0, .aload_n 0, 1), (1, .iload_n 1, 1), (2, .invokevirtual 17, 3), (5, .goto 6, 3), (8, .astore_n 2, 1), (9, .iconst 1, 1), (10, .ireturn, 1), (11, .iconst 0, 1), (12, .ireturn, 1)]
set_option maxRecDepth 100000 in
theorem jD1 : ∀ q ∈ jP1, decode method_4_code q.1 = .ok q.2 := by decide +kernel
/-- LinkedCoresLaw.fault(LLinkedCores;I[J)I -/
def jP2 : List (Nat × Instr × Nat) := [(0, .aload_n 2, 1), (1, .iconst 0, 1), (2, .aload_n 0, 1), (3, .iload_n 1, 1), (4, .invokevirtual 21, 3), (7, .i2l, 1), (8, .lastore, 1), (9, .goto 6, 3), (12, .astore_n 3, 1), (13, .iconst 1, 1), (14, .ireturn, 1), (15, .iconst 0, 1), (16, .ireturn, 1)]
set_option maxRecDepth 100000 in
theorem jD2 : ∀ q ∈ jP2, decode method_5_code q.1 = .ok q.2 := by decide +kernel
/-- LinkedCoresLaw.processor(LLinkedCores;II[J)I -/
def jP3 : List (Nat × Instr × Nat) := [(0, .aload_n 3, 1), (1, .iconst 0, 1), (2, .aload_n 0, 1), (3, .iload_n 1, 1), (4, .iload_n 2, 1), (5, .invokevirtual 24, 3), (8, .i2l, 1), (9, .lastore, 1), (10, .goto 15, 3), (13, .astore 4, 2), (15, .iconst 1, 1), (16, .ireturn, 1), (17, .astore 4, 2), (19, .iconst 2, 1), (20, .ireturn, 1), (21, .astore 4, 2), (23, .iconst 3, 1), (24, .ireturn, 1), (25, .iconst 0, 1), (26, .ireturn, 1)]
set_option maxRecDepth 100000 in
theorem jD3 : ∀ q ∈ jP3, decode method_6_code q.1 = .ok q.2 := by decide +kernel
/-- LinkedCoresLaw.code(LLinkedCores;II[J)I -/
def jP4 : List (Nat × Instr × Nat) := [(0, .aload_n 3, 1), (1, .iconst 0, 1), (2, .aload_n 0, 1), (3, .iload_n 1, 1), (4, .iload_n 2, 1), (5, .invokevirtual 32, 3), (8, .i2l, 1), (9, .lastore, 1), (10, .goto 15, 3), (13, .astore 4, 2), (15, .iconst 1, 1), (16, .ireturn, 1), (17, .astore 4, 2), (19, .iconst 2, 1), (20, .ireturn, 1), (21, .astore 4, 2), (23, .iconst 3, 1), (24, .ireturn, 1), (25, .iconst 0, 1), (26, .ireturn, 1)]
set_option maxRecDepth 100000 in
theorem jD4 : ∀ q ∈ jP4, decode method_7_code q.1 = .ok q.2 := by decide +kernel
/-- LinkedCoresLaw.instruction(LLinkedCores;III[J)I -/
def jP5 : List (Nat × Instr × Nat) := [(0, .aload 4, 2), (2, .iconst 0, 1), (3, .aload_n 0, 1), (4, .iload_n 1, 1), (5, .iload_n 2, 1), (6, .iload_n 3, 1), (7, .invokevirtual 37, 3), (10, .i2l, 1), (11, .lastore, 1), (12, .goto 19, 3), (15, .astore 5, 2), (17, .iconst 1, 1), (18, .ireturn, 1), (19, .astore 5, 2), (21, .iconst 2, 1), (22, .ireturn, 1), (23, .astore 5, 2), (25, .iconst 3, 1), (26, .ireturn, 1), (27, .astore 5, 2), (29, .iconst 4, 1), (30, .ireturn, 1), (31, .iconst 0, 1), (32, .ireturn, 1)]
set_option maxRecDepth 100000 in
theorem jD5 : ∀ q ∈ jP5, decode method_8_code q.1 = .ok q.2 := by decide +kernel
/-- LinkedCoresLaw.link(LLinkedCores;II[J)I -/
def jP6 : List (Nat × Instr × Nat) := [(0, .aload_n 3, 1), (1, .iconst 0, 1), (2, .aload_n 0, 1), (3, .iload_n 1, 1), (4, .iload_n 2, 1), (5, .invokevirtual 41, 3), (8, .i2l, 1), (9, .lastore, 1), (10, .goto 15, 3), (13, .astore 4, 2), (15, .iconst 1, 1), (16, .ireturn, 1), (17, .astore 4, 2), (19, .iconst 2, 1), (20, .ireturn, 1), (21, .astore 4, 2), (23, .iconst 3, 1), (24, .ireturn, 1), (25, .iconst 0, 1), (26, .ireturn, 1)]
set_option maxRecDepth 100000 in
theorem jD6 : ∀ q ∈ jP6, decode method_9_code q.1 = .ok q.2 := by decide +kernel
/-- LinkedCoresLaw.begin(LLinkedCores;)I -/
def jP7 : List (Nat × Instr × Nat) := [(0, .aload_n 0, 1), (1, .invokevirtual 44, 3), (4, .goto 6, 3), (7, .astore_n 1, 1), (8, .iconst 1, 1), (9, .ireturn, 1), (10, .iconst 0, 1), (11, .ireturn, 1)]
set_option maxRecDepth 100000 in
theorem jD7 : ∀ q ∈ jP7, decode method_10_code q.1 = .ok q.2 := by decide +kernel
/-- LinkedCoresLaw.input(LLinkedCores;I[J)I -/
def jP8 : List (Nat × Instr × Nat) := [(0, .aload_n 2, 1), (1, .iconst 0, 1), (2, .aload_n 0, 1), (3, .iload_n 1, 1), (4, .invokevirtual 47, 3), (7, .i2l, 1), (8, .lastore, 1), (9, .goto 9, 3), (12, .astore_n 3, 1), (13, .iconst 1, 1), (14, .ireturn, 1), (15, .astore_n 3, 1), (16, .iconst 2, 1), (17, .ireturn, 1), (18, .iconst 0, 1), (19, .ireturn, 1)]
set_option maxRecDepth 100000 in
theorem jD8 : ∀ q ∈ jP8, decode method_11_code q.1 = .ok q.2 := by decide +kernel
/-- LinkedCoresLaw.run(LLinkedCores;II[J)I -/
def jP9 : List (Nat × Instr × Nat) := [(0, .aload_n 3, 1), (1, .iconst 0, 1), (2, .aload_n 0, 1), (3, .iload_n 1, 1), (4, .iload_n 2, 1), (5, .invokevirtual 50, 3), (8, .i2l, 1), (9, .lastore, 1), (10, .goto 15, 3), (13, .astore 4, 2), (15, .iconst 1, 1), (16, .ireturn, 1), (17, .astore 4, 2), (19, .iconst 2, 1), (20, .ireturn, 1), (21, .astore 4, 2), (23, .iconst 3, 1), (24, .ireturn, 1), (25, .iconst 0, 1), (26, .ireturn, 1)]
set_option maxRecDepth 100000 in
theorem jD9 : ∀ q ∈ jP9, decode method_12_code q.1 = .ok q.2 := by decide +kernel
/-- LinkedCoresLaw.beat(LLinkedCores;I[J)I -/
def jP10 : List (Nat × Instr × Nat) := [(0, .aload_n 2, 1), (1, .iconst 0, 1), (2, .aload_n 0, 1), (3, .iload_n 1, 1), (4, .invokevirtual 53, 3), (7, .i2l, 1), (8, .lastore, 1), (9, .goto 9, 3), (12, .astore_n 3, 1), (13, .iconst 1, 1), (14, .ireturn, 1), (15, .astore_n 3, 1), (16, .iconst 2, 1), (17, .ireturn, 1), (18, .iconst 0, 1), (19, .ireturn, 1)]
set_option maxRecDepth 100000 in
theorem jD10 : ∀ q ∈ jP10, decode method_13_code q.1 = .ok q.2 := by decide +kernel
/-- LinkedCoresLaw.rounds(LLinkedCores;I[J)I -/
def jP11 : List (Nat × Instr × Nat) := [(0, .aload_n 2, 1), (1, .iconst 0, 1), (2, .aload_n 0, 1), (3, .iload_n 1, 1), (4, .invokevirtual 56, 3), (7, .i2l, 1), (8, .lastore, 1), (9, .goto 9, 3), (12, .astore_n 3, 1), (13, .iconst 1, 1), (14, .ireturn, 1), (15, .astore_n 3, 1), (16, .iconst 2, 1), (17, .ireturn, 1), (18, .iconst 0, 1), (19, .ireturn, 1)]
set_option maxRecDepth 100000 in
theorem jD11 : ∀ q ∈ jP11, decode method_14_code q.1 = .ok q.2 := by decide +kernel
/-- LinkedCoresLaw.outcome(LLinkedCores;[J)I -/
def jP12 : List (Nat × Instr × Nat) := [(0, .aload_n 1, 1), (1, .iconst 0, 1), (2, .aload_n 0, 1), (3, .invokevirtual 59, 3), (6, .i2l, 1), (7, .lastore, 1), (8, .goto 6, 3), (11, .astore_n 2, 1), (12, .iconst 1, 1), (13, .ireturn, 1), (14, .iconst 0, 1), (15, .ireturn, 1)]
set_option maxRecDepth 100000 in
theorem jD12 : ∀ q ∈ jP12, decode method_15_code q.1 = .ok q.2 := by decide +kernel
/-- LinkedCoresLaw.core(LLinkedCores;II[J)I -/
def jP13 : List (Nat × Instr × Nat) := [(0, .aload_n 3, 1), (1, .iconst 0, 1), (2, .aload_n 0, 1), (3, .iload_n 1, 1), (4, .iload_n 2, 1), (5, .invokevirtual 63, 3), (8, .i2l, 1), (9, .lastore, 1), (10, .goto 15, 3), (13, .astore 4, 2), (15, .iconst 1, 1), (16, .ireturn, 1), (17, .astore 4, 2), (19, .iconst 2, 1), (20, .ireturn, 1), (21, .astore 4, 2), (23, .iconst 3, 1), (24, .ireturn, 1), (25, .iconst 0, 1), (26, .ireturn, 1)]
set_option maxRecDepth 100000 in
theorem jD13 : ∀ q ∈ jP13, decode method_16_code q.1 = .ok q.2 := by decide +kernel
/-- LinkedCoresLaw.ready(LLinkedCores;II[J)I -/
def jP14 : List (Nat × Instr × Nat) := [(0, .aload_n 3, 1), (1, .iconst 0, 1), (2, .aload_n 0, 1), (3, .iload_n 1, 1), (4, .iload_n 2, 1), (5, .invokevirtual 66, 3), (8, .i2l, 1), (9, .lastore, 1), (10, .goto 15, 3), (13, .astore 4, 2), (15, .iconst 1, 1), (16, .ireturn, 1), (17, .astore 4, 2), (19, .iconst 2, 1), (20, .ireturn, 1), (21, .astore 4, 2), (23, .iconst 3, 1), (24, .ireturn, 1), (25, .iconst 0, 1), (26, .ireturn, 1)]
set_option maxRecDepth 100000 in
theorem jD14 : ∀ q ∈ jP14, decode method_17_code q.1 = .ok q.2 := by decide +kernel
/-- LinkedCoresLaw.word(LLinkedCores;II[J)I -/
def jP15 : List (Nat × Instr × Nat) := [(0, .aload_n 3, 1), (1, .iconst 0, 1), (2, .aload_n 0, 1), (3, .iload_n 1, 1), (4, .iload_n 2, 1), (5, .invokevirtual 69, 3), (8, .i2l, 1), (9, .lastore, 1), (10, .goto 15, 3), (13, .astore 4, 2), (15, .iconst 1, 1), (16, .ireturn, 1), (17, .astore 4, 2), (19, .iconst 2, 1), (20, .ireturn, 1), (21, .astore 4, 2), (23, .iconst 3, 1), (24, .ireturn, 1), (25, .iconst 0, 1), (26, .ireturn, 1)]
set_option maxRecDepth 100000 in
theorem jD15 : ∀ q ∈ jP15, decode method_18_code q.1 = .ok q.2 := by decide +kernel
/-- LinkedCoresLaw.output(LLinkedCores;I[J)I -/
def jP16 : List (Nat × Instr × Nat) := [(0, .aload_n 2, 1), (1, .iconst 0, 1), (2, .aload_n 0, 1), (3, .iload_n 1, 1), (4, .invokevirtual 72, 3), (7, .i2l, 1), (8, .lastore, 1), (9, .goto 9, 3), (12, .astore_n 3, 1), (13, .iconst 1, 1), (14, .ireturn, 1), (15, .astore_n 3, 1), (16, .iconst 2, 1), (17, .ireturn, 1), (18, .iconst 0, 1), (19, .ireturn, 1)]
set_option maxRecDepth 100000 in
theorem jD16 : ∀ q ∈ jP16, decode method_19_code q.1 = .ok q.2 := by decide +kernel
/-- LinkedCoresLaw.about(LLinkedCores;I[J)I -/
def jP17 : List (Nat × Instr × Nat) := [(0, .aload_n 2, 1), (1, .iconst 0, 1), (2, .aload_n 0, 1), (3, .iload_n 1, 1), (4, .invokevirtual 75, 3), (7, .i2l, 1), (8, .lastore, 1), (9, .goto 9, 3), (12, .astore_n 3, 1), (13, .iconst 1, 1), (14, .ireturn, 1), (15, .astore_n 3, 1), (16, .iconst 2, 1), (17, .ireturn, 1), (18, .iconst 0, 1), (19, .ireturn, 1)]
set_option maxRecDepth 100000 in
theorem jD17 : ∀ q ∈ jP17, decode method_20_code q.1 = .ok q.2 := by decide +kernel
/-- LinkedCoresLaw.law([I)Z -/
def jP18_0 : List (Nat × Instr × Nat) := [(0, .new 8, 3), (3, .dup, 1), (4, .invokespecial 78, 3), (7, .astore_n 1, 1), (8, .new 79, 3), (11, .dup, 1)]
set_option maxRecDepth 100000 in
theorem jD18_0 : ∀ q ∈ jP18_0, decode code q.1 = .ok q.2 := by decide +kernel
def jP18_1 : List (Nat × Instr × Nat) := [(12, .invokespecial 81, 3), (15, .astore_n 2, 1), (16, .iconst 1, 1), (17, .newarray .long, 2), (19, .astore_n 3, 1), (20, .iconst 0, 1)]
set_option maxRecDepth 100000 in
theorem jD18_1 : ∀ q ∈ jP18_1, decode code q.1 = .ok q.2 := by decide +kernel
def jP18_2 : List (Nat × Instr × Nat) := [(21, .istore 4, 2), (23, .iload 4, 2), (25, .aload_n 0, 1), (26, .arraylength, 1), (27, .iconst 4, 1), (28, .isub, 1)]
set_option maxRecDepth 100000 in
theorem jD18_2 : ∀ q ∈ jP18_2, decode code q.1 = .ok q.2 := by decide +kernel
def jP18_3 : List (Nat × Instr × Nat) := [(29, .if_icmp .gt 1170, 3), (32, .aload_n 0, 1), (33, .iload 4, 2), (35, .iaload, 1), (36, .bipush 31, 2), (38, .iand, 1)]
set_option maxRecDepth 100000 in
theorem jD18_3 : ∀ q ∈ jP18_3, decode code q.1 = .ok q.2 := by decide +kernel
def jP18_4 : List (Nat × Instr × Nat) := [(39, .tableswitch 1154 0 18 #[89, 145, 181, 194, 250, 318, 386, 466, 534, 558, 614, 682, 738, 794, 838, 906, 974, 1042, 1098], 89), (128, .aload_n 1, 1), (129, .aload_n 0, 1), (130, .iload 4, 2), (132, .iconst 1, 1), (133, .iadd, 1)]
set_option maxRecDepth 100000 in
theorem jD18_4 : ∀ q ∈ jP18_4, decode code q.1 = .ok q.2 := by decide +kernel
def jP18_5 : List (Nat × Instr × Nat) := [(134, .iaload, 1), (135, .aload_n 3, 1), (136, .invokestatic 82, 3), (139, .istore 5, 2), (141, .aload_n 2, 1), (142, .aload_n 0, 1)]
set_option maxRecDepth 100000 in
theorem jD18_5 : ∀ q ∈ jP18_5, decode code q.1 = .ok q.2 := by decide +kernel
def jP18_6 : List (Nat × Instr × Nat) := [(143, .iload 4, 2), (145, .iconst 1, 1), (146, .iadd, 1), (147, .iaload, 1), (148, .invokevirtual 87, 3), (151, .istore 6, 2)]
set_option maxRecDepth 100000 in
theorem jD18_6 : ∀ q ∈ jP18_6, decode code q.1 = .ok q.2 := by decide +kernel
def jP18_7 : List (Nat × Instr × Nat) := [(153, .aload_n 2, 1), (154, .invokevirtual 88, 3), (157, .iload 5, 2), (159, .if_icmp .eq 5, 3), (162, .iconst 0, 1), (163, .ireturn, 1)]
set_option maxRecDepth 100000 in
theorem jD18_7 : ∀ q ∈ jP18_7, decode code q.1 = .ok q.2 := by decide +kernel
def jP18_8 : List (Nat × Instr × Nat) := [(164, .iload 5, 2), (166, .ifCond .ne 15, 3), (169, .aload_n 3, 1), (170, .iconst 0, 1), (171, .laload, 1), (172, .iload 6, 2)]
set_option maxRecDepth 100000 in
theorem jD18_8 : ∀ q ∈ jP18_8, decode code q.1 = .ok q.2 := by decide +kernel
def jP18_9 : List (Nat × Instr × Nat) := [(174, .i2l, 1), (175, .lcmp, 1), (176, .ifCond .eq 5, 3), (179, .iconst 0, 1), (180, .ireturn, 1), (181, .goto 1012, 3)]
set_option maxRecDepth 100000 in
theorem jD18_9 : ∀ q ∈ jP18_9, decode code q.1 = .ok q.2 := by decide +kernel
def jP18_10 : List (Nat × Instr × Nat) := [(184, .aload_n 1, 1), (185, .aload_n 0, 1), (186, .iload 4, 2), (188, .iconst 1, 1), (189, .iadd, 1), (190, .iaload, 1)]
set_option maxRecDepth 100000 in
theorem jD18_10 : ∀ q ∈ jP18_10, decode code q.1 = .ok q.2 := by decide +kernel
def jP18_11 : List (Nat × Instr × Nat) := [(191, .invokestatic 91, 3), (194, .istore 5, 2), (196, .aload_n 2, 1), (197, .aload_n 0, 1), (198, .iload 4, 2), (200, .iconst 1, 1)]
set_option maxRecDepth 100000 in
theorem jD18_11 : ∀ q ∈ jP18_11, decode code q.1 = .ok q.2 := by decide +kernel
def jP18_12 : List (Nat × Instr × Nat) := [(201, .iadd, 1), (202, .iaload, 1), (203, .invokevirtual 94, 3), (206, .aload_n 2, 1), (207, .invokevirtual 88, 3), (210, .iload 5, 2)]
set_option maxRecDepth 100000 in
theorem jD18_12 : ∀ q ∈ jP18_12, decode code q.1 = .ok q.2 := by decide +kernel
def jP18_13 : List (Nat × Instr × Nat) := [(212, .if_icmp .eq 5, 3), (215, .iconst 0, 1), (216, .ireturn, 1), (217, .goto 976, 3), (220, .aload_n 1, 1), (221, .invokevirtual 95, 3)]
set_option maxRecDepth 100000 in
theorem jD18_13 : ∀ q ∈ jP18_13, decode code q.1 = .ok q.2 := by decide +kernel
def jP18_14 : List (Nat × Instr × Nat) := [(224, .aload_n 2, 1), (225, .invokevirtual 98, 3), (228, .if_icmp .eq 965, 3), (231, .iconst 0, 1), (232, .ireturn, 1), (233, .aload_n 1, 1)]
set_option maxRecDepth 100000 in
theorem jD18_14 : ∀ q ∈ jP18_14, decode code q.1 = .ok q.2 := by decide +kernel
def jP18_15 : List (Nat × Instr × Nat) := [(234, .aload_n 0, 1), (235, .iload 4, 2), (237, .iconst 1, 1), (238, .iadd, 1), (239, .iaload, 1), (240, .aload_n 3, 1)]
set_option maxRecDepth 100000 in
theorem jD18_15 : ∀ q ∈ jP18_15, decode code q.1 = .ok q.2 := by decide +kernel
def jP18_16 : List (Nat × Instr × Nat) := [(241, .invokestatic 99, 3), (244, .istore 5, 2), (246, .aload_n 2, 1), (247, .aload_n 0, 1), (248, .iload 4, 2), (250, .iconst 1, 1)]
set_option maxRecDepth 100000 in
theorem jD18_16 : ∀ q ∈ jP18_16, decode code q.1 = .ok q.2 := by decide +kernel
def jP18_17 : List (Nat × Instr × Nat) := [(251, .iadd, 1), (252, .iaload, 1), (253, .invokevirtual 101, 3), (256, .istore 6, 2), (258, .aload_n 2, 1), (259, .invokevirtual 88, 3)]
set_option maxRecDepth 100000 in
theorem jD18_17 : ∀ q ∈ jP18_17, decode code q.1 = .ok q.2 := by decide +kernel
def jP18_18 : List (Nat × Instr × Nat) := [(262, .iload 5, 2), (264, .if_icmp .eq 5, 3), (267, .iconst 0, 1), (268, .ireturn, 1), (269, .iload 5, 2), (271, .ifCond .ne 15, 3)]
set_option maxRecDepth 100000 in
theorem jD18_18 : ∀ q ∈ jP18_18, decode code q.1 = .ok q.2 := by decide +kernel
def jP18_19 : List (Nat × Instr × Nat) := [(274, .aload_n 3, 1), (275, .iconst 0, 1), (276, .laload, 1), (277, .iload 6, 2), (279, .i2l, 1), (280, .lcmp, 1)]
set_option maxRecDepth 100000 in
theorem jD18_19 : ∀ q ∈ jP18_19, decode code q.1 = .ok q.2 := by decide +kernel
def jP18_20 : List (Nat × Instr × Nat) := [(281, .ifCond .eq 5, 3), (284, .iconst 0, 1), (285, .ireturn, 1), (286, .goto 907, 3), (289, .aload_n 1, 1), (290, .aload_n 0, 1)]
set_option maxRecDepth 100000 in
theorem jD18_20 : ∀ q ∈ jP18_20, decode code q.1 = .ok q.2 := by decide +kernel
def jP18_21 : List (Nat × Instr × Nat) := [(291, .iload 4, 2), (293, .iconst 1, 1), (294, .iadd, 1), (295, .iaload, 1), (296, .aload_n 0, 1), (297, .iload 4, 2)]
set_option maxRecDepth 100000 in
theorem jD18_21 : ∀ q ∈ jP18_21, decode code q.1 = .ok q.2 := by decide +kernel
def jP18_22 : List (Nat × Instr × Nat) := [(299, .iconst 2, 1), (300, .iadd, 1), (301, .iaload, 1), (302, .aload_n 3, 1), (303, .invokestatic 102, 3), (306, .istore 5, 2)]
set_option maxRecDepth 100000 in
theorem jD18_22 : ∀ q ∈ jP18_22, decode code q.1 = .ok q.2 := by decide +kernel
def jP18_23 : List (Nat × Instr × Nat) := [(308, .aload_n 2, 1), (309, .aload_n 0, 1), (310, .iload 4, 2), (312, .iconst 1, 1), (313, .iadd, 1), (314, .iaload, 1)]
set_option maxRecDepth 100000 in
theorem jD18_23 : ∀ q ∈ jP18_23, decode code q.1 = .ok q.2 := by decide +kernel
def jP18_24 : List (Nat × Instr × Nat) := [(315, .aload_n 0, 1), (316, .iload 4, 2), (318, .iconst 2, 1), (319, .iadd, 1), (320, .iaload, 1), (321, .invokevirtual 105, 3)]
set_option maxRecDepth 100000 in
theorem jD18_24 : ∀ q ∈ jP18_24, decode code q.1 = .ok q.2 := by decide +kernel
def jP18_25 : List (Nat × Instr × Nat) := [(324, .istore 6, 2), (326, .aload_n 2, 1), (327, .invokevirtual 88, 3), (330, .iload 5, 2), (332, .if_icmp .eq 5, 3), (335, .iconst 0, 1)]
set_option maxRecDepth 100000 in
theorem jD18_25 : ∀ q ∈ jP18_25, decode code q.1 = .ok q.2 := by decide +kernel
def jP18_26 : List (Nat × Instr × Nat) := [(336, .ireturn, 1), (337, .iload 5, 2), (339, .ifCond .ne 15, 3), (342, .aload_n 3, 1), (343, .iconst 0, 1), (344, .laload, 1)]
set_option maxRecDepth 100000 in
theorem jD18_26 : ∀ q ∈ jP18_26, decode code q.1 = .ok q.2 := by decide +kernel
def jP18_27 : List (Nat × Instr × Nat) := [(345, .iload 6, 2), (347, .i2l, 1), (348, .lcmp, 1), (349, .ifCond .eq 5, 3), (352, .iconst 0, 1), (353, .ireturn, 1)]
set_option maxRecDepth 100000 in
theorem jD18_27 : ∀ q ∈ jP18_27, decode code q.1 = .ok q.2 := by decide +kernel
def jP18_28 : List (Nat × Instr × Nat) := [(354, .goto 839, 3), (357, .aload_n 1, 1), (358, .aload_n 0, 1), (359, .iload 4, 2), (361, .iconst 1, 1), (362, .iadd, 1)]
set_option maxRecDepth 100000 in
theorem jD18_28 : ∀ q ∈ jP18_28, decode code q.1 = .ok q.2 := by decide +kernel
def jP18_29 : List (Nat × Instr × Nat) := [(363, .iaload, 1), (364, .aload_n 0, 1), (365, .iload 4, 2), (367, .iconst 2, 1), (368, .iadd, 1), (369, .iaload, 1)]
set_option maxRecDepth 100000 in
theorem jD18_29 : ∀ q ∈ jP18_29, decode code q.1 = .ok q.2 := by decide +kernel
def jP18_30 : List (Nat × Instr × Nat) := [(370, .aload_n 3, 1), (371, .invokestatic 106, 3), (374, .istore 5, 2), (376, .aload_n 2, 1), (377, .aload_n 0, 1), (378, .iload 4, 2)]
set_option maxRecDepth 100000 in
theorem jD18_30 : ∀ q ∈ jP18_30, decode code q.1 = .ok q.2 := by decide +kernel
def jP18_31 : List (Nat × Instr × Nat) := [(380, .iconst 1, 1), (381, .iadd, 1), (382, .iaload, 1), (383, .aload_n 0, 1), (384, .iload 4, 2), (386, .iconst 2, 1)]
set_option maxRecDepth 100000 in
theorem jD18_31 : ∀ q ∈ jP18_31, decode code q.1 = .ok q.2 := by decide +kernel
def jP18_32 : List (Nat × Instr × Nat) := [(387, .iadd, 1), (388, .iaload, 1), (389, .invokevirtual 108, 3), (392, .istore 6, 2), (394, .aload_n 2, 1), (395, .invokevirtual 88, 3)]
set_option maxRecDepth 100000 in
theorem jD18_32 : ∀ q ∈ jP18_32, decode code q.1 = .ok q.2 := by decide +kernel
def jP18_33 : List (Nat × Instr × Nat) := [(398, .iload 5, 2), (400, .if_icmp .eq 5, 3), (403, .iconst 0, 1), (404, .ireturn, 1), (405, .iload 5, 2), (407, .ifCond .ne 15, 3)]
set_option maxRecDepth 100000 in
theorem jD18_33 : ∀ q ∈ jP18_33, decode code q.1 = .ok q.2 := by decide +kernel
def jP18_34 : List (Nat × Instr × Nat) := [(410, .aload_n 3, 1), (411, .iconst 0, 1), (412, .laload, 1), (413, .iload 6, 2), (415, .i2l, 1), (416, .lcmp, 1)]
set_option maxRecDepth 100000 in
theorem jD18_34 : ∀ q ∈ jP18_34, decode code q.1 = .ok q.2 := by decide +kernel
def jP18_35 : List (Nat × Instr × Nat) := [(417, .ifCond .eq 5, 3), (420, .iconst 0, 1), (421, .ireturn, 1), (422, .goto 771, 3), (425, .aload_n 1, 1), (426, .aload_n 0, 1)]
set_option maxRecDepth 100000 in
theorem jD18_35 : ∀ q ∈ jP18_35, decode code q.1 = .ok q.2 := by decide +kernel
def jP18_36 : List (Nat × Instr × Nat) := [(427, .iload 4, 2), (429, .iconst 1, 1), (430, .iadd, 1), (431, .iaload, 1), (432, .aload_n 0, 1), (433, .iload 4, 2)]
set_option maxRecDepth 100000 in
theorem jD18_36 : ∀ q ∈ jP18_36, decode code q.1 = .ok q.2 := by decide +kernel
def jP18_37 : List (Nat × Instr × Nat) := [(435, .iconst 2, 1), (436, .iadd, 1), (437, .iaload, 1), (438, .aload_n 0, 1), (439, .iload 4, 2), (441, .iconst 3, 1)]
set_option maxRecDepth 100000 in
theorem jD18_37 : ∀ q ∈ jP18_37, decode code q.1 = .ok q.2 := by decide +kernel
def jP18_38 : List (Nat × Instr × Nat) := [(442, .iadd, 1), (443, .iaload, 1), (444, .aload_n 3, 1), (445, .invokestatic 109, 3), (448, .istore 5, 2), (450, .aload_n 2, 1)]
set_option maxRecDepth 100000 in
theorem jD18_38 : ∀ q ∈ jP18_38, decode code q.1 = .ok q.2 := by decide +kernel
def jP18_39 : List (Nat × Instr × Nat) := [(451, .aload_n 0, 1), (452, .iload 4, 2), (454, .iconst 1, 1), (455, .iadd, 1), (456, .iaload, 1), (457, .aload_n 0, 1)]
set_option maxRecDepth 100000 in
theorem jD18_39 : ∀ q ∈ jP18_39, decode code q.1 = .ok q.2 := by decide +kernel
def jP18_40 : List (Nat × Instr × Nat) := [(458, .iload 4, 2), (460, .iconst 2, 1), (461, .iadd, 1), (462, .iaload, 1), (463, .aload_n 0, 1), (464, .iload 4, 2)]
set_option maxRecDepth 100000 in
theorem jD18_40 : ∀ q ∈ jP18_40, decode code q.1 = .ok q.2 := by decide +kernel
def jP18_41 : List (Nat × Instr × Nat) := [(466, .iconst 3, 1), (467, .iadd, 1), (468, .iaload, 1), (469, .invokevirtual 112, 3), (472, .istore 6, 2), (474, .aload_n 2, 1)]
set_option maxRecDepth 100000 in
theorem jD18_41 : ∀ q ∈ jP18_41, decode code q.1 = .ok q.2 := by decide +kernel
def jP18_42 : List (Nat × Instr × Nat) := [(475, .invokevirtual 88, 3), (478, .iload 5, 2), (480, .if_icmp .eq 5, 3), (483, .iconst 0, 1), (484, .ireturn, 1), (485, .iload 5, 2)]
set_option maxRecDepth 100000 in
theorem jD18_42 : ∀ q ∈ jP18_42, decode code q.1 = .ok q.2 := by decide +kernel
def jP18_43 : List (Nat × Instr × Nat) := [(487, .ifCond .ne 15, 3), (490, .aload_n 3, 1), (491, .iconst 0, 1), (492, .laload, 1), (493, .iload 6, 2), (495, .i2l, 1)]
set_option maxRecDepth 100000 in
theorem jD18_43 : ∀ q ∈ jP18_43, decode code q.1 = .ok q.2 := by decide +kernel
def jP18_44 : List (Nat × Instr × Nat) := [(496, .lcmp, 1), (497, .ifCond .eq 5, 3), (500, .iconst 0, 1), (501, .ireturn, 1), (502, .goto 691, 3), (505, .aload_n 1, 1)]
set_option maxRecDepth 100000 in
theorem jD18_44 : ∀ q ∈ jP18_44, decode code q.1 = .ok q.2 := by decide +kernel
def jP18_45 : List (Nat × Instr × Nat) := [(506, .aload_n 0, 1), (507, .iload 4, 2), (509, .iconst 1, 1), (510, .iadd, 1), (511, .iaload, 1), (512, .aload_n 0, 1)]
set_option maxRecDepth 100000 in
theorem jD18_45 : ∀ q ∈ jP18_45, decode code q.1 = .ok q.2 := by decide +kernel
def jP18_46 : List (Nat × Instr × Nat) := [(513, .iload 4, 2), (515, .iconst 2, 1), (516, .iadd, 1), (517, .iaload, 1), (518, .aload_n 3, 1), (519, .invokestatic 113, 3)]
set_option maxRecDepth 100000 in
theorem jD18_46 : ∀ q ∈ jP18_46, decode code q.1 = .ok q.2 := by decide +kernel
def jP18_47 : List (Nat × Instr × Nat) := [(522, .istore 5, 2), (524, .aload_n 2, 1), (525, .aload_n 0, 1), (526, .iload 4, 2), (528, .iconst 1, 1), (529, .iadd, 1)]
set_option maxRecDepth 100000 in
theorem jD18_47 : ∀ q ∈ jP18_47, decode code q.1 = .ok q.2 := by decide +kernel
def jP18_48 : List (Nat × Instr × Nat) := [(530, .iaload, 1), (531, .aload_n 0, 1), (532, .iload 4, 2), (534, .iconst 2, 1), (535, .iadd, 1), (536, .iaload, 1)]
set_option maxRecDepth 100000 in
theorem jD18_48 : ∀ q ∈ jP18_48, decode code q.1 = .ok q.2 := by decide +kernel
def jP18_49 : List (Nat × Instr × Nat) := [(537, .invokevirtual 115, 3), (540, .istore 6, 2), (542, .aload_n 2, 1), (543, .invokevirtual 88, 3), (546, .iload 5, 2), (548, .if_icmp .eq 5, 3)]
set_option maxRecDepth 100000 in
theorem jD18_49 : ∀ q ∈ jP18_49, decode code q.1 = .ok q.2 := by decide +kernel
def jP18_50 : List (Nat × Instr × Nat) := [(551, .iconst 0, 1), (552, .ireturn, 1), (553, .iload 5, 2), (555, .ifCond .ne 15, 3), (558, .aload_n 3, 1), (559, .iconst 0, 1)]
set_option maxRecDepth 100000 in
theorem jD18_50 : ∀ q ∈ jP18_50, decode code q.1 = .ok q.2 := by decide +kernel
def jP18_51 : List (Nat × Instr × Nat) := [(560, .laload, 1), (561, .iload 6, 2), (563, .i2l, 1), (564, .lcmp, 1), (565, .ifCond .eq 5, 3), (568, .iconst 0, 1)]
set_option maxRecDepth 100000 in
theorem jD18_51 : ∀ q ∈ jP18_51, decode code q.1 = .ok q.2 := by decide +kernel
def jP18_52 : List (Nat × Instr × Nat) := [(569, .ireturn, 1), (570, .goto 623, 3), (573, .aload_n 1, 1), (574, .invokestatic 116, 3), (577, .istore 5, 2), (579, .aload_n 2, 1)]
set_option maxRecDepth 100000 in
theorem jD18_52 : ∀ q ∈ jP18_52, decode code q.1 = .ok q.2 := by decide +kernel
def jP18_53 : List (Nat × Instr × Nat) := [(580, .invokevirtual 119, 3), (583, .aload_n 2, 1), (584, .invokevirtual 88, 3), (587, .iload 5, 2), (589, .if_icmp .eq 5, 3), (592, .iconst 0, 1)]
set_option maxRecDepth 100000 in
theorem jD18_53 : ∀ q ∈ jP18_53, decode code q.1 = .ok q.2 := by decide +kernel
def jP18_54 : List (Nat × Instr × Nat) := [(593, .ireturn, 1), (594, .goto 599, 3), (597, .aload_n 1, 1), (598, .aload_n 0, 1), (599, .iload 4, 2), (601, .iconst 1, 1)]
set_option maxRecDepth 100000 in
theorem jD18_54 : ∀ q ∈ jP18_54, decode code q.1 = .ok q.2 := by decide +kernel
def jP18_55 : List (Nat × Instr × Nat) := [(602, .iadd, 1), (603, .iaload, 1), (604, .aload_n 3, 1), (605, .invokestatic 120, 3), (608, .istore 5, 2), (610, .aload_n 2, 1)]
set_option maxRecDepth 100000 in
theorem jD18_55 : ∀ q ∈ jP18_55, decode code q.1 = .ok q.2 := by decide +kernel
def jP18_56 : List (Nat × Instr × Nat) := [(611, .aload_n 0, 1), (612, .iload 4, 2), (614, .iconst 1, 1), (615, .iadd, 1), (616, .iaload, 1), (617, .invokevirtual 122, 3)]
set_option maxRecDepth 100000 in
theorem jD18_56 : ∀ q ∈ jP18_56, decode code q.1 = .ok q.2 := by decide +kernel
def jP18_57 : List (Nat × Instr × Nat) := [(620, .istore 6, 2), (622, .aload_n 2, 1), (623, .invokevirtual 88, 3), (626, .iload 5, 2), (628, .if_icmp .eq 5, 3), (631, .iconst 0, 1)]
set_option maxRecDepth 100000 in
theorem jD18_57 : ∀ q ∈ jP18_57, decode code q.1 = .ok q.2 := by decide +kernel
def jP18_58 : List (Nat × Instr × Nat) := [(632, .ireturn, 1), (633, .iload 5, 2), (635, .ifCond .ne 15, 3), (638, .aload_n 3, 1), (639, .iconst 0, 1), (640, .laload, 1)]
set_option maxRecDepth 100000 in
theorem jD18_58 : ∀ q ∈ jP18_58, decode code q.1 = .ok q.2 := by decide +kernel
def jP18_59 : List (Nat × Instr × Nat) := [(641, .iload 6, 2), (643, .i2l, 1), (644, .lcmp, 1), (645, .ifCond .eq 5, 3), (648, .iconst 0, 1), (649, .ireturn, 1)]
set_option maxRecDepth 100000 in
theorem jD18_59 : ∀ q ∈ jP18_59, decode code q.1 = .ok q.2 := by decide +kernel
def jP18_60 : List (Nat × Instr × Nat) := [(650, .goto 543, 3), (653, .aload_n 1, 1), (654, .aload_n 0, 1), (655, .iload 4, 2), (657, .iconst 1, 1), (658, .iadd, 1)]
set_option maxRecDepth 100000 in
theorem jD18_60 : ∀ q ∈ jP18_60, decode code q.1 = .ok q.2 := by decide +kernel
def jP18_61 : List (Nat × Instr × Nat) := [(659, .iaload, 1), (660, .aload_n 0, 1), (661, .iload 4, 2), (663, .iconst 2, 1), (664, .iadd, 1), (665, .iaload, 1)]
set_option maxRecDepth 100000 in
theorem jD18_61 : ∀ q ∈ jP18_61, decode code q.1 = .ok q.2 := by decide +kernel
def jP18_62 : List (Nat × Instr × Nat) := [(666, .aload_n 3, 1), (667, .invokestatic 123, 3), (670, .istore 5, 2), (672, .aload_n 2, 1), (673, .aload_n 0, 1), (674, .iload 4, 2)]
set_option maxRecDepth 100000 in
theorem jD18_62 : ∀ q ∈ jP18_62, decode code q.1 = .ok q.2 := by decide +kernel
def jP18_63 : List (Nat × Instr × Nat) := [(676, .iconst 1, 1), (677, .iadd, 1), (678, .iaload, 1), (679, .aload_n 0, 1), (680, .iload 4, 2), (682, .iconst 2, 1)]
set_option maxRecDepth 100000 in
theorem jD18_63 : ∀ q ∈ jP18_63, decode code q.1 = .ok q.2 := by decide +kernel
def jP18_64 : List (Nat × Instr × Nat) := [(683, .iadd, 1), (684, .iaload, 1), (685, .invokevirtual 125, 3), (688, .istore 6, 2), (690, .aload_n 2, 1), (691, .invokevirtual 88, 3)]
set_option maxRecDepth 100000 in
theorem jD18_64 : ∀ q ∈ jP18_64, decode code q.1 = .ok q.2 := by decide +kernel
def jP18_65 : List (Nat × Instr × Nat) := [(694, .iload 5, 2), (696, .if_icmp .eq 5, 3), (699, .iconst 0, 1), (700, .ireturn, 1), (701, .iload 5, 2), (703, .ifCond .ne 15, 3)]
set_option maxRecDepth 100000 in
theorem jD18_65 : ∀ q ∈ jP18_65, decode code q.1 = .ok q.2 := by decide +kernel
def jP18_66 : List (Nat × Instr × Nat) := [(706, .aload_n 3, 1), (707, .iconst 0, 1), (708, .laload, 1), (709, .iload 6, 2), (711, .i2l, 1), (712, .lcmp, 1)]
set_option maxRecDepth 100000 in
theorem jD18_66 : ∀ q ∈ jP18_66, decode code q.1 = .ok q.2 := by decide +kernel
def jP18_67 : List (Nat × Instr × Nat) := [(713, .ifCond .eq 5, 3), (716, .iconst 0, 1), (717, .ireturn, 1), (718, .goto 475, 3), (721, .aload_n 1, 1), (722, .aload_n 0, 1)]
set_option maxRecDepth 100000 in
theorem jD18_67 : ∀ q ∈ jP18_67, decode code q.1 = .ok q.2 := by decide +kernel
def jP18_68 : List (Nat × Instr × Nat) := [(723, .iload 4, 2), (725, .iconst 1, 1), (726, .iadd, 1), (727, .iaload, 1), (728, .aload_n 3, 1), (729, .invokestatic 126, 3)]
set_option maxRecDepth 100000 in
theorem jD18_68 : ∀ q ∈ jP18_68, decode code q.1 = .ok q.2 := by decide +kernel
def jP18_69 : List (Nat × Instr × Nat) := [(732, .istore 5, 2), (734, .aload_n 2, 1), (735, .aload_n 0, 1), (736, .iload 4, 2), (738, .iconst 1, 1), (739, .iadd, 1)]
set_option maxRecDepth 100000 in
theorem jD18_69 : ∀ q ∈ jP18_69, decode code q.1 = .ok q.2 := by decide +kernel
def jP18_70 : List (Nat × Instr × Nat) := [(740, .iaload, 1), (741, .invokevirtual 128, 3), (744, .istore 6, 2), (746, .aload_n 2, 1), (747, .invokevirtual 88, 3), (750, .iload 5, 2)]
set_option maxRecDepth 100000 in
theorem jD18_70 : ∀ q ∈ jP18_70, decode code q.1 = .ok q.2 := by decide +kernel
def jP18_71 : List (Nat × Instr × Nat) := [(752, .if_icmp .eq 5, 3), (755, .iconst 0, 1), (756, .ireturn, 1), (757, .iload 5, 2), (759, .ifCond .ne 15, 3), (762, .aload_n 3, 1)]
set_option maxRecDepth 100000 in
theorem jD18_71 : ∀ q ∈ jP18_71, decode code q.1 = .ok q.2 := by decide +kernel
def jP18_72 : List (Nat × Instr × Nat) := [(763, .iconst 0, 1), (764, .laload, 1), (765, .iload 6, 2), (767, .i2l, 1), (768, .lcmp, 1), (769, .ifCond .eq 5, 3)]
set_option maxRecDepth 100000 in
theorem jD18_72 : ∀ q ∈ jP18_72, decode code q.1 = .ok q.2 := by decide +kernel
def jP18_73 : List (Nat × Instr × Nat) := [(772, .iconst 0, 1), (773, .ireturn, 1), (774, .goto 419, 3), (777, .aload_n 1, 1), (778, .aload_n 0, 1), (779, .iload 4, 2)]
set_option maxRecDepth 100000 in
theorem jD18_73 : ∀ q ∈ jP18_73, decode code q.1 = .ok q.2 := by decide +kernel
def jP18_74 : List (Nat × Instr × Nat) := [(781, .iconst 1, 1), (782, .iadd, 1), (783, .iaload, 1), (784, .aload_n 3, 1), (785, .invokestatic 129, 3), (788, .istore 5, 2)]
set_option maxRecDepth 100000 in
theorem jD18_74 : ∀ q ∈ jP18_74, decode code q.1 = .ok q.2 := by decide +kernel
def jP18_75 : List (Nat × Instr × Nat) := [(790, .aload_n 2, 1), (791, .aload_n 0, 1), (792, .iload 4, 2), (794, .iconst 1, 1), (795, .iadd, 1), (796, .iaload, 1)]
set_option maxRecDepth 100000 in
theorem jD18_75 : ∀ q ∈ jP18_75, decode code q.1 = .ok q.2 := by decide +kernel
def jP18_76 : List (Nat × Instr × Nat) := [(797, .invokevirtual 131, 3), (800, .istore 6, 2), (802, .aload_n 2, 1), (803, .invokevirtual 88, 3), (806, .iload 5, 2), (808, .if_icmp .eq 5, 3)]
set_option maxRecDepth 100000 in
theorem jD18_76 : ∀ q ∈ jP18_76, decode code q.1 = .ok q.2 := by decide +kernel
def jP18_77 : List (Nat × Instr × Nat) := [(811, .iconst 0, 1), (812, .ireturn, 1), (813, .iload 5, 2), (815, .ifCond .ne 15, 3), (818, .aload_n 3, 1), (819, .iconst 0, 1)]
set_option maxRecDepth 100000 in
theorem jD18_77 : ∀ q ∈ jP18_77, decode code q.1 = .ok q.2 := by decide +kernel
def jP18_78 : List (Nat × Instr × Nat) := [(820, .laload, 1), (821, .iload 6, 2), (823, .i2l, 1), (824, .lcmp, 1), (825, .ifCond .eq 5, 3), (828, .iconst 0, 1)]
set_option maxRecDepth 100000 in
theorem jD18_78 : ∀ q ∈ jP18_78, decode code q.1 = .ok q.2 := by decide +kernel
def jP18_79 : List (Nat × Instr × Nat) := [(829, .ireturn, 1), (830, .goto 363, 3), (833, .aload_n 1, 1), (834, .aload_n 3, 1), (835, .invokestatic 132, 3), (838, .istore 5, 2)]
set_option maxRecDepth 100000 in
theorem jD18_79 : ∀ q ∈ jP18_79, decode code q.1 = .ok q.2 := by decide +kernel
def jP18_80 : List (Nat × Instr × Nat) := [(840, .aload_n 2, 1), (841, .invokevirtual 135, 3), (844, .istore 6, 2), (846, .aload_n 2, 1), (847, .invokevirtual 88, 3), (850, .iload 5, 2)]
set_option maxRecDepth 100000 in
theorem jD18_80 : ∀ q ∈ jP18_80, decode code q.1 = .ok q.2 := by decide +kernel
def jP18_81 : List (Nat × Instr × Nat) := [(852, .if_icmp .eq 5, 3), (855, .iconst 0, 1), (856, .ireturn, 1), (857, .iload 5, 2), (859, .ifCond .ne 15, 3), (862, .aload_n 3, 1)]
set_option maxRecDepth 100000 in
theorem jD18_81 : ∀ q ∈ jP18_81, decode code q.1 = .ok q.2 := by decide +kernel
def jP18_82 : List (Nat × Instr × Nat) := [(863, .iconst 0, 1), (864, .laload, 1), (865, .iload 6, 2), (867, .i2l, 1), (868, .lcmp, 1), (869, .ifCond .eq 5, 3)]
set_option maxRecDepth 100000 in
theorem jD18_82 : ∀ q ∈ jP18_82, decode code q.1 = .ok q.2 := by decide +kernel
def jP18_83 : List (Nat × Instr × Nat) := [(872, .iconst 0, 1), (873, .ireturn, 1), (874, .goto 319, 3), (877, .aload_n 1, 1), (878, .aload_n 0, 1), (879, .iload 4, 2)]
set_option maxRecDepth 100000 in
theorem jD18_83 : ∀ q ∈ jP18_83, decode code q.1 = .ok q.2 := by decide +kernel
def jP18_84 : List (Nat × Instr × Nat) := [(881, .iconst 1, 1), (882, .iadd, 1), (883, .iaload, 1), (884, .aload_n 0, 1), (885, .iload 4, 2), (887, .iconst 2, 1)]
set_option maxRecDepth 100000 in
theorem jD18_84 : ∀ q ∈ jP18_84, decode code q.1 = .ok q.2 := by decide +kernel
def jP18_85 : List (Nat × Instr × Nat) := [(888, .iadd, 1), (889, .iaload, 1), (890, .aload_n 3, 1), (891, .invokestatic 136, 3), (894, .istore 5, 2), (896, .aload_n 2, 1)]
set_option maxRecDepth 100000 in
theorem jD18_85 : ∀ q ∈ jP18_85, decode code q.1 = .ok q.2 := by decide +kernel
def jP18_86 : List (Nat × Instr × Nat) := [(897, .aload_n 0, 1), (898, .iload 4, 2), (900, .iconst 1, 1), (901, .iadd, 1), (902, .iaload, 1), (903, .aload_n 0, 1)]
set_option maxRecDepth 100000 in
theorem jD18_86 : ∀ q ∈ jP18_86, decode code q.1 = .ok q.2 := by decide +kernel
def jP18_87 : List (Nat × Instr × Nat) := [(904, .iload 4, 2), (906, .iconst 2, 1), (907, .iadd, 1), (908, .iaload, 1), (909, .invokevirtual 138, 3), (912, .istore 6, 2)]
set_option maxRecDepth 100000 in
theorem jD18_87 : ∀ q ∈ jP18_87, decode code q.1 = .ok q.2 := by decide +kernel
def jP18_88 : List (Nat × Instr × Nat) := [(914, .aload_n 2, 1), (915, .invokevirtual 88, 3), (918, .iload 5, 2), (920, .if_icmp .eq 5, 3), (923, .iconst 0, 1), (924, .ireturn, 1)]
set_option maxRecDepth 100000 in
theorem jD18_88 : ∀ q ∈ jP18_88, decode code q.1 = .ok q.2 := by decide +kernel
def jP18_89 : List (Nat × Instr × Nat) := [(925, .iload 5, 2), (927, .ifCond .ne 15, 3), (930, .aload_n 3, 1), (931, .iconst 0, 1), (932, .laload, 1), (933, .iload 6, 2)]
set_option maxRecDepth 100000 in
theorem jD18_89 : ∀ q ∈ jP18_89, decode code q.1 = .ok q.2 := by decide +kernel
def jP18_90 : List (Nat × Instr × Nat) := [(935, .i2l, 1), (936, .lcmp, 1), (937, .ifCond .eq 5, 3), (940, .iconst 0, 1), (941, .ireturn, 1), (942, .goto 251, 3)]
set_option maxRecDepth 100000 in
theorem jD18_90 : ∀ q ∈ jP18_90, decode code q.1 = .ok q.2 := by decide +kernel
def jP18_91 : List (Nat × Instr × Nat) := [(945, .aload_n 1, 1), (946, .aload_n 0, 1), (947, .iload 4, 2), (949, .iconst 1, 1), (950, .iadd, 1), (951, .iaload, 1)]
set_option maxRecDepth 100000 in
theorem jD18_91 : ∀ q ∈ jP18_91, decode code q.1 = .ok q.2 := by decide +kernel
def jP18_92 : List (Nat × Instr × Nat) := [(952, .aload_n 0, 1), (953, .iload 4, 2), (955, .iconst 2, 1), (956, .iadd, 1), (957, .iaload, 1), (958, .aload_n 3, 1)]
set_option maxRecDepth 100000 in
theorem jD18_92 : ∀ q ∈ jP18_92, decode code q.1 = .ok q.2 := by decide +kernel
def jP18_93 : List (Nat × Instr × Nat) := [(959, .invokestatic 139, 3), (962, .istore 5, 2), (964, .aload_n 2, 1), (965, .aload_n 0, 1), (966, .iload 4, 2), (968, .iconst 1, 1)]
set_option maxRecDepth 100000 in
theorem jD18_93 : ∀ q ∈ jP18_93, decode code q.1 = .ok q.2 := by decide +kernel
def jP18_94 : List (Nat × Instr × Nat) := [(969, .iadd, 1), (970, .iaload, 1), (971, .aload_n 0, 1), (972, .iload 4, 2), (974, .iconst 2, 1), (975, .iadd, 1)]
set_option maxRecDepth 100000 in
theorem jD18_94 : ∀ q ∈ jP18_94, decode code q.1 = .ok q.2 := by decide +kernel
def jP18_95 : List (Nat × Instr × Nat) := [(976, .iaload, 1), (977, .invokevirtual 141, 3), (980, .istore 6, 2), (982, .aload_n 2, 1), (983, .invokevirtual 88, 3), (986, .iload 5, 2)]
set_option maxRecDepth 100000 in
theorem jD18_95 : ∀ q ∈ jP18_95, decode code q.1 = .ok q.2 := by decide +kernel
def jP18_96 : List (Nat × Instr × Nat) := [(988, .if_icmp .eq 5, 3), (991, .iconst 0, 1), (992, .ireturn, 1), (993, .iload 5, 2), (995, .ifCond .ne 15, 3), (998, .aload_n 3, 1)]
set_option maxRecDepth 100000 in
theorem jD18_96 : ∀ q ∈ jP18_96, decode code q.1 = .ok q.2 := by decide +kernel
def jP18_97 : List (Nat × Instr × Nat) := [(999, .iconst 0, 1), (1000, .laload, 1), (1001, .iload 6, 2), (1003, .i2l, 1), (1004, .lcmp, 1), (1005, .ifCond .eq 5, 3)]
set_option maxRecDepth 100000 in
theorem jD18_97 : ∀ q ∈ jP18_97, decode code q.1 = .ok q.2 := by decide +kernel
def jP18_98 : List (Nat × Instr × Nat) := [(1008, .iconst 0, 1), (1009, .ireturn, 1), (1010, .goto 183, 3), (1013, .aload_n 1, 1), (1014, .aload_n 0, 1), (1015, .iload 4, 2)]
set_option maxRecDepth 100000 in
theorem jD18_98 : ∀ q ∈ jP18_98, decode code q.1 = .ok q.2 := by decide +kernel
def jP18_99 : List (Nat × Instr × Nat) := [(1017, .iconst 1, 1), (1018, .iadd, 1), (1019, .iaload, 1), (1020, .aload_n 0, 1), (1021, .iload 4, 2), (1023, .iconst 2, 1)]
set_option maxRecDepth 100000 in
theorem jD18_99 : ∀ q ∈ jP18_99, decode code q.1 = .ok q.2 := by decide +kernel
def jP18_100 : List (Nat × Instr × Nat) := [(1024, .iadd, 1), (1025, .iaload, 1), (1026, .aload_n 3, 1), (1027, .invokestatic 142, 3), (1030, .istore 5, 2), (1032, .aload_n 2, 1)]
set_option maxRecDepth 100000 in
theorem jD18_100 : ∀ q ∈ jP18_100, decode code q.1 = .ok q.2 := by decide +kernel
def jP18_101 : List (Nat × Instr × Nat) := [(1033, .aload_n 0, 1), (1034, .iload 4, 2), (1036, .iconst 1, 1), (1037, .iadd, 1), (1038, .iaload, 1), (1039, .aload_n 0, 1)]
set_option maxRecDepth 100000 in
theorem jD18_101 : ∀ q ∈ jP18_101, decode code q.1 = .ok q.2 := by decide +kernel
def jP18_102 : List (Nat × Instr × Nat) := [(1040, .iload 4, 2), (1042, .iconst 2, 1), (1043, .iadd, 1), (1044, .iaload, 1), (1045, .invokevirtual 144, 3), (1048, .istore 6, 2)]
set_option maxRecDepth 100000 in
theorem jD18_102 : ∀ q ∈ jP18_102, decode code q.1 = .ok q.2 := by decide +kernel
def jP18_103 : List (Nat × Instr × Nat) := [(1050, .aload_n 2, 1), (1051, .invokevirtual 88, 3), (1054, .iload 5, 2), (1056, .if_icmp .eq 5, 3), (1059, .iconst 0, 1), (1060, .ireturn, 1)]
set_option maxRecDepth 100000 in
theorem jD18_103 : ∀ q ∈ jP18_103, decode code q.1 = .ok q.2 := by decide +kernel
def jP18_104 : List (Nat × Instr × Nat) := [(1061, .iload 5, 2), (1063, .ifCond .ne 15, 3), (1066, .aload_n 3, 1), (1067, .iconst 0, 1), (1068, .laload, 1), (1069, .iload 6, 2)]
set_option maxRecDepth 100000 in
theorem jD18_104 : ∀ q ∈ jP18_104, decode code q.1 = .ok q.2 := by decide +kernel
def jP18_105 : List (Nat × Instr × Nat) := [(1071, .i2l, 1), (1072, .lcmp, 1), (1073, .ifCond .eq 5, 3), (1076, .iconst 0, 1), (1077, .ireturn, 1), (1078, .goto 115, 3)]
set_option maxRecDepth 100000 in
theorem jD18_105 : ∀ q ∈ jP18_105, decode code q.1 = .ok q.2 := by decide +kernel
def jP18_106 : List (Nat × Instr × Nat) := [(1081, .aload_n 1, 1), (1082, .aload_n 0, 1), (1083, .iload 4, 2), (1085, .iconst 1, 1), (1086, .iadd, 1), (1087, .iaload, 1)]
set_option maxRecDepth 100000 in
theorem jD18_106 : ∀ q ∈ jP18_106, decode code q.1 = .ok q.2 := by decide +kernel
def jP18_107 : List (Nat × Instr × Nat) := [(1088, .aload_n 3, 1), (1089, .invokestatic 145, 3), (1092, .istore 5, 2), (1094, .aload_n 2, 1), (1095, .aload_n 0, 1), (1096, .iload 4, 2)]
set_option maxRecDepth 100000 in
theorem jD18_107 : ∀ q ∈ jP18_107, decode code q.1 = .ok q.2 := by decide +kernel
def jP18_108 : List (Nat × Instr × Nat) := [(1098, .iconst 1, 1), (1099, .iadd, 1), (1100, .iaload, 1), (1101, .invokevirtual 147, 3), (1104, .istore 6, 2), (1106, .aload_n 2, 1)]
set_option maxRecDepth 100000 in
theorem jD18_108 : ∀ q ∈ jP18_108, decode code q.1 = .ok q.2 := by decide +kernel
def jP18_109 : List (Nat × Instr × Nat) := [(1107, .invokevirtual 88, 3), (1110, .iload 5, 2), (1112, .if_icmp .eq 5, 3), (1115, .iconst 0, 1), (1116, .ireturn, 1), (1117, .iload 5, 2)]
set_option maxRecDepth 100000 in
theorem jD18_109 : ∀ q ∈ jP18_109, decode code q.1 = .ok q.2 := by decide +kernel
def jP18_110 : List (Nat × Instr × Nat) := [(1119, .ifCond .ne 15, 3), (1122, .aload_n 3, 1), (1123, .iconst 0, 1), (1124, .laload, 1), (1125, .iload 6, 2), (1127, .i2l, 1)]
set_option maxRecDepth 100000 in
theorem jD18_110 : ∀ q ∈ jP18_110, decode code q.1 = .ok q.2 := by decide +kernel
def jP18_111 : List (Nat × Instr × Nat) := [(1128, .lcmp, 1), (1129, .ifCond .eq 5, 3), (1132, .iconst 0, 1), (1133, .ireturn, 1), (1134, .goto 59, 3), (1137, .aload_n 1, 1)]
set_option maxRecDepth 100000 in
theorem jD18_111 : ∀ q ∈ jP18_111, decode code q.1 = .ok q.2 := by decide +kernel
def jP18_112 : List (Nat × Instr × Nat) := [(1138, .aload_n 0, 1), (1139, .iload 4, 2), (1141, .iconst 1, 1), (1142, .iadd, 1), (1143, .iaload, 1), (1144, .aload_n 3, 1)]
set_option maxRecDepth 100000 in
theorem jD18_112 : ∀ q ∈ jP18_112, decode code q.1 = .ok q.2 := by decide +kernel
def jP18_113 : List (Nat × Instr × Nat) := [(1145, .invokestatic 148, 3), (1148, .istore 5, 2), (1150, .aload_n 2, 1), (1151, .aload_n 0, 1), (1152, .iload 4, 2), (1154, .iconst 1, 1)]
set_option maxRecDepth 100000 in
theorem jD18_113 : ∀ q ∈ jP18_113, decode code q.1 = .ok q.2 := by decide +kernel
def jP18_114 : List (Nat × Instr × Nat) := [(1155, .iadd, 1), (1156, .iaload, 1), (1157, .invokevirtual 150, 3), (1160, .istore 6, 2), (1162, .aload_n 2, 1), (1163, .invokevirtual 88, 3)]
set_option maxRecDepth 100000 in
theorem jD18_114 : ∀ q ∈ jP18_114, decode code q.1 = .ok q.2 := by decide +kernel
def jP18_115 : List (Nat × Instr × Nat) := [(1166, .iload 5, 2), (1168, .if_icmp .eq 5, 3), (1171, .iconst 0, 1), (1172, .ireturn, 1), (1173, .iload 5, 2), (1175, .ifCond .ne 15, 3)]
set_option maxRecDepth 100000 in
theorem jD18_115 : ∀ q ∈ jP18_115, decode code q.1 = .ok q.2 := by decide +kernel
def jP18_116 : List (Nat × Instr × Nat) := [(1178, .aload_n 3, 1), (1179, .iconst 0, 1), (1180, .laload, 1), (1181, .iload 6, 2), (1183, .i2l, 1), (1184, .lcmp, 1)]
set_option maxRecDepth 100000 in
theorem jD18_116 : ∀ q ∈ jP18_116, decode code q.1 = .ok q.2 := by decide +kernel
def jP18_117 : List (Nat × Instr × Nat) := [(1185, .ifCond .eq 5, 3), (1188, .iconst 0, 1), (1189, .ireturn, 1), (1190, .goto 3, 3), (1193, .iinc 4 4, 3), (1196, .goto (-1173), 3)]
set_option maxRecDepth 100000 in
theorem jD18_117 : ∀ q ∈ jP18_117, decode code q.1 = .ok q.2 := by decide +kernel
def jP18_118 : List (Nat × Instr × Nat) := [(1199, .iconst 1, 1), (1200, .ireturn, 1)]
set_option maxRecDepth 100000 in
theorem jD18_118 : ∀ q ∈ jP18_118, decode code q.1 = .ok q.2 := by decide +kernel
def jP18 : List (Nat × Instr × Nat) := jP18_0 ++ (jP18_1 ++ (jP18_2 ++ (jP18_3 ++ (jP18_4 ++ (jP18_5 ++ (jP18_6 ++ (jP18_7 ++ (jP18_8 ++ (jP18_9 ++ (jP18_10 ++ (jP18_11 ++ (jP18_12 ++ (jP18_13 ++ (jP18_14 ++ (jP18_15 ++ (jP18_16 ++ (jP18_17 ++ (jP18_18 ++ (jP18_19 ++ (jP18_20 ++ (jP18_21 ++ (jP18_22 ++ (jP18_23 ++ (jP18_24 ++ (jP18_25 ++ (jP18_26 ++ (jP18_27 ++ (jP18_28 ++ (jP18_29 ++ (jP18_30 ++ (jP18_31 ++ (jP18_32 ++ (jP18_33 ++ (jP18_34 ++ (jP18_35 ++ (jP18_36 ++ (jP18_37 ++ (jP18_38 ++ (jP18_39 ++ (jP18_40 ++ (jP18_41 ++ (jP18_42 ++ (jP18_43 ++ (jP18_44 ++ (jP18_45 ++ (jP18_46 ++ (jP18_47 ++ (jP18_48 ++ (jP18_49 ++ (jP18_50 ++ (jP18_51 ++ (jP18_52 ++ (jP18_53 ++ (jP18_54 ++ (jP18_55 ++ (jP18_56 ++ (jP18_57 ++ (jP18_58 ++ (jP18_59 ++ (jP18_60 ++ (jP18_61 ++ (jP18_62 ++ (jP18_63 ++ (jP18_64 ++ (jP18_65 ++ (jP18_66 ++ (jP18_67 ++ (jP18_68 ++ (jP18_69 ++ (jP18_70 ++ (jP18_71 ++ (jP18_72 ++ (jP18_73 ++ (jP18_74 ++ (jP18_75 ++ (jP18_76 ++ (jP18_77 ++ (jP18_78 ++ (jP18_79 ++ (jP18_80 ++ (jP18_81 ++ (jP18_82 ++ (jP18_83 ++ (jP18_84 ++ (jP18_85 ++ (jP18_86 ++ (jP18_87 ++ (jP18_88 ++ (jP18_89 ++ (jP18_90 ++ (jP18_91 ++ (jP18_92 ++ (jP18_93 ++ (jP18_94 ++ (jP18_95 ++ (jP18_96 ++ (jP18_97 ++ (jP18_98 ++ (jP18_99 ++ (jP18_100 ++ (jP18_101 ++ (jP18_102 ++ (jP18_103 ++ (jP18_104 ++ (jP18_105 ++ (jP18_106 ++ (jP18_107 ++ (jP18_108 ++ (jP18_109 ++ (jP18_110 ++ (jP18_111 ++ (jP18_112 ++ (jP18_113 ++ (jP18_114 ++ (jP18_115 ++ (jP18_116 ++ (jP18_117 ++ (jP18_118))))))))))))))))))))))))))))))))))))))))))))))))))))))))))))))))))))))))))))))))))))))))))))))))))))))))))))))))))))))
theorem jD18 : ∀ q ∈ jP18, decode code q.1 = .ok q.2 := jApp jD18_0 (jApp jD18_1 (jApp jD18_2 (jApp jD18_3 (jApp jD18_4 (jApp jD18_5 (jApp jD18_6 (jApp jD18_7 (jApp jD18_8 (jApp jD18_9 (jApp jD18_10 (jApp jD18_11 (jApp jD18_12 (jApp jD18_13 (jApp jD18_14 (jApp jD18_15 (jApp jD18_16 (jApp jD18_17 (jApp jD18_18 (jApp jD18_19 (jApp jD18_20 (jApp jD18_21 (jApp jD18_22 (jApp jD18_23 (jApp jD18_24 (jApp jD18_25 (jApp jD18_26 (jApp jD18_27 (jApp jD18_28 (jApp jD18_29 (jApp jD18_30 (jApp jD18_31 (jApp jD18_32 (jApp jD18_33 (jApp jD18_34 (jApp jD18_35 (jApp jD18_36 (jApp jD18_37 (jApp jD18_38 (jApp jD18_39 (jApp jD18_40 (jApp jD18_41 (jApp jD18_42 (jApp jD18_43 (jApp jD18_44 (jApp jD18_45 (jApp jD18_46 (jApp jD18_47 (jApp jD18_48 (jApp jD18_49 (jApp jD18_50 (jApp jD18_51 (jApp jD18_52 (jApp jD18_53 (jApp jD18_54 (jApp jD18_55 (jApp jD18_56 (jApp jD18_57 (jApp jD18_58 (jApp jD18_59 (jApp jD18_60 (jApp jD18_61 (jApp jD18_62 (jApp jD18_63 (jApp jD18_64 (jApp jD18_65 (jApp jD18_66 (jApp jD18_67 (jApp jD18_68 (jApp jD18_69 (jApp jD18_70 (jApp jD18_71 (jApp jD18_72 (jApp jD18_73 (jApp jD18_74 (jApp jD18_75 (jApp jD18_76 (jApp jD18_77 (jApp jD18_78 (jApp jD18_79 (jApp jD18_80 (jApp jD18_81 (jApp jD18_82 (jApp jD18_83 (jApp jD18_84 (jApp jD18_85 (jApp jD18_86 (jApp jD18_87 (jApp jD18_88 (jApp jD18_89 (jApp jD18_90 (jApp jD18_91 (jApp jD18_92 (jApp jD18_93 (jApp jD18_94 (jApp jD18_95 (jApp jD18_96 (jApp jD18_97 (jApp jD18_98 (jApp jD18_99 (jApp jD18_100 (jApp jD18_101 (jApp jD18_102 (jApp jD18_103 (jApp jD18_104 (jApp jD18_105 (jApp jD18_106 (jApp jD18_107 (jApp jD18_108 (jApp jD18_109 (jApp jD18_110 (jApp jD18_111 (jApp jD18_112 (jApp jD18_113 (jApp jD18_114 (jApp jD18_115 (jApp jD18_116 (jApp jD18_117 jD18_118)))))))))))))))))))))))))))))))))))))))))))))))))))))))))))))))))))))))))))))))))))))))))))))))))))))))))))))))))))))
/-- LinkedCores.<init>()V -/
def jP19 : List (Nat × Instr × Nat) := [(0, .aload_n 0, 1), (1, .invokespecial 1, 3), (4, .aload_n 0, 1), (5, .sipush 3000, 3), (8, .newarray .byte, 2), (10, .putfield 9, 3), (13, .aload_n 0, 1), (14, .iconst (-1), 1), (15, .putfield 13, 3), (18, .aload_n 0, 1), (19, .iconst (-1), 1), (20, .putfield 17, 3), (23, .aload_n 0, 1), (24, .iconst 0, 1), (25, .putfield 20, 3), (28, .return_, 1)]
set_option maxRecDepth 100000 in
theorem jD19 : ∀ q ∈ jP19, decode prog_1_method_1_code q.1 = .ok q.2 := by decide +kernel
/-- LinkedCores.put(I)I -/
def jP20_0 : List (Nat × Instr × Nat) := [(0, .iconst 0, 1), (1, .istore_n 2, 1), (2, .iconst 0, 1), (3, .istore_n 3, 1), (4, .iload_n 3, 1), (5, .iconst 4, 1), (6, .if_icmp .ge 70, 3), (9, .iload_n 1, 1), (10, .bipush 8, 2), (12, .iload_n 3, 1), (13, .imul, 1), (14, .iushr, 1), (15, .sipush 255, 3), (18, .iand, 1), (19, .istore 4, 2), (21, .iload 4, 2), (23, .ifCond .eq 34, 3), (26, .iload 4, 2), (28, .bipush 10, 2), (30, .if_icmp .eq 27, 3), (33, .iload 4, 2), (35, .bipush 32, 2), (37, .if_icmp .lt 10, 3), (40, .iload 4, 2), (42, .bipush 126, 2), (44, .if_icmp .le 13, 3), (47, .new 23, 3), (50, .dup, 1), (51, .ldc 25, 2), (53, .invokespecial 27, 3), (56, .athrow, 1), (57, .iload_n 2, 1), (58, .iload 4, 2), (60, .ifCond .ne 7, 3), (63, .iconst 0, 1), (64, .goto 4, 3), (67, .iconst 1, 1), (68, .iadd, 1), (69, .istore_n 2, 1), (70, .iinc 3 1, 3), (73, .goto (-69), 3), (76, .aload_n 0, 1), (77, .getfield 20, 3), (80, .iload_n 2, 1), (81, .iadd, 1), (82, .sipush 3000, 3), (85, .if_icmp .le 13, 3), (88, .new 30, 3)]
set_option maxRecDepth 100000 in
theorem jD20_0 : ∀ q ∈ jP20_0, decode prog_1_method_2_code q.1 = .ok q.2 := by decide +kernel
def jP20_1 : List (Nat × Instr × Nat) := [(91, .dup, 1), (92, .ldc 32, 2), (94, .invokespecial 34, 3), (97, .athrow, 1), (98, .iconst 0, 1), (99, .istore_n 3, 1), (100, .iload_n 3, 1), (101, .iconst 4, 1), (102, .if_icmp .ge 58, 3), (105, .iload_n 1, 1), (106, .bipush 8, 2), (108, .iload_n 3, 1), (109, .imul, 1), (110, .iushr, 1), (111, .sipush 255, 3), (114, .iand, 1), (115, .istore 4, 2), (117, .iload 4, 2), (119, .ifCond .eq 35, 3), (122, .aload_n 0, 1), (123, .getfield 20, 3), (126, .sipush 3000, 3), (129, .if_icmp .ge 25, 3), (132, .aload_n 0, 1), (133, .getfield 9, 3), (136, .aload_n 0, 1), (137, .getfield 20, 3), (140, .iload 4, 2), (142, .i2b, 1), (143, .bastore, 1), (144, .aload_n 0, 1), (145, .dup, 1), (146, .getfield 20, 3), (149, .iconst 1, 1), (150, .iadd, 1), (151, .putfield 20, 3), (154, .iinc 3 1, 3), (157, .goto (-57), 3), (160, .aload_n 0, 1), (161, .getfield 20, 3), (164, .ireturn, 1)]
set_option maxRecDepth 100000 in
theorem jD20_1 : ∀ q ∈ jP20_1, decode prog_1_method_2_code q.1 = .ok q.2 := by decide +kernel
def jP20 : List (Nat × Instr × Nat) := jP20_0 ++ (jP20_1)
theorem jD20 : ∀ q ∈ jP20, decode prog_1_method_2_code q.1 = .ok q.2 := jApp jD20_0 jD20_1
/-- LinkedCores.end(I)V -/
def jP21 : List (Nat × Instr × Nat) := [(0, .iload_n 1, 1), (1, .ifCond .lt 11, 3), (4, .iload_n 1, 1), (5, .aload_n 0, 1), (6, .getfield 20, 3), (9, .if_icmp .le 13, 3), (12, .new 23, 3), (15, .dup, 1), (16, .ldc 35, 2), (18, .invokespecial 27, 3), (21, .athrow, 1), (22, .aload_n 0, 1), (23, .iload_n 1, 1), (24, .putfield 20, 3), (27, .return_, 1)]
set_option maxRecDepth 100000 in
theorem jD21 : ∀ q ∈ jP21, decode prog_1_method_3_code q.1 = .ok q.2 := by decide +kernel
/-- LinkedCores.compile()I -/
def jP22_0 : List (Nat × Instr × Nat) := [(0, .new 37, 3), (3, .dup, 1), (4, .invokespecial 39, 3), (7, .astore_n 1, 1), (8, .aload_n 0, 1), (9, .aconst_null, 1), (10, .putfield 40, 3), (13, .new 44, 3), (16, .dup, 1), (17, .aload_n 0, 1), (18, .getfield 9, 3), (21, .aload_n 0, 1), (22, .getfield 20, 3), (25, .invokespecial 46, 3), (28, .astore_n 2, 1), (29, .aload_n 2, 1), (30, .invokevirtual 49, 3), (33, .new 52, 3), (36, .dup, 1), (37, .aload_n 1, 1), (38, .aload_n 2, 1), (39, .invokespecial 54, 3), (42, .invokevirtual 57, 3), (45, .aload_n 0, 1), (46, .iconst 0, 1), (47, .putfield 20, 3), (50, .aload_n 1, 1), (51, .getfield 60, 3), (54, .ifCond .ne 14, 3), (57, .new 63, 3), (60, .dup, 1), (61, .invokespecial 65, 3), (64, .aload_n 1, 1), (65, .invokevirtual 66, 3), (68, .aload_n 1, 1), (69, .getfield 60, 3), (72, .ifCond .ne 14, 3), (75, .new 70, 3), (78, .dup, 1), (79, .aload_n 1, 1), (80, .invokespecial 72, 3), (83, .invokevirtual 74, 3), (86, .aload_n 1, 1), (87, .getfield 60, 3), (90, .ifCond .ne 11, 3), (93, .aload_n 0, 1), (94, .aload_n 1, 1), (95, .invokevirtual 77, 3), (98, .goto 4, 3), (101, .aconst_null, 1), (102, .astore_n 3, 1), (103, .aload_n 0, 1), (104, .aload_n 1, 1), (105, .getfield 60, 3), (108, .putfield 81, 3)]
set_option maxRecDepth 100000 in
theorem jD22_0 : ∀ q ∈ jP22_0, decode prog_1_method_4_code q.1 = .ok q.2 := by decide +kernel
def jP22_1 : List (Nat × Instr × Nat) := [(111, .aload_n 0, 1), (112, .aload_n 1, 1), (113, .getfield 84, 3), (116, .putfield 13, 3), (119, .aload_n 0, 1), (120, .aload_n 1, 1), (121, .getfield 87, 3), (124, .putfield 17, 3), (127, .aload_n 0, 1), (128, .aload_n 3, 1), (129, .putfield 40, 3), (132, .aload_n 3, 1), (133, .ifnonnull 7, 3), (136, .iconst (-1), 1), (137, .goto 7, 3), (140, .aload_n 3, 1), (141, .invokevirtual 90, 3), (144, .ireturn, 1)]
set_option maxRecDepth 100000 in
theorem jD22_1 : ∀ q ∈ jP22_1, decode prog_1_method_4_code q.1 = .ok q.2 := by decide +kernel
def jP22 : List (Nat × Instr × Nat) := jP22_0 ++ (jP22_1)
theorem jD22 : ∀ q ∈ jP22, decode prog_1_method_4_code q.1 = .ok q.2 := jApp jD22_0 jD22_1
/-- LinkedCores.fault(I)I -/
def jP23 : List (Nat × Instr × Nat) := [(0, .iload_n 1, 1), (1, .ifCond .lt 8, 3), (4, .iload_n 1, 1), (5, .iconst 2, 1), (6, .if_icmp .le 13, 3), (9, .new 23, 3), (12, .dup, 1), (13, .ldc 96, 2), (15, .invokespecial 27, 3), (18, .athrow, 1), (19, .iload_n 1, 1), (20, .ifCond .ne 10, 3), (23, .aload_n 0, 1), (24, .getfield 81, 3), (27, .goto 19, 3), (30, .iload_n 1, 1), (31, .iconst 1, 1), (32, .if_icmp .ne 10, 3), (35, .aload_n 0, 1), (36, .getfield 13, 3), (39, .goto 7, 3), (42, .aload_n 0, 1), (43, .getfield 17, 3), (46, .ireturn, 1)]
set_option maxRecDepth 100000 in
theorem jD23 : ∀ q ∈ jP23, decode prog_1_method_5_code q.1 = .ok q.2 := by decide +kernel
/-- LinkedCores.processor(II)I -/
def jP24 : List (Nat × Instr × Nat) := [(0, .aload_n 0, 1), (1, .iload_n 1, 1), (2, .invokevirtual 98, 3), (5, .astore_n 3, 1), (6, .iload_n 2, 1), (7, .tableswitch 54 0 3 #[29, 35, 44, 49], 29), (36, .aload_n 3, 1), (37, .getfield 102, 3), (40, .arraylength, 1), (41, .ireturn, 1), (42, .aload_n 3, 1), (43, .getfield 107, 3), (46, .arraylength, 1), (47, .bipush 16, 2), (49, .isub, 1), (50, .ireturn, 1), (51, .aload_n 3, 1), (52, .getfield 111, 3), (55, .ireturn, 1), (56, .aload_n 3, 1), (57, .getfield 114, 3), (60, .ireturn, 1), (61, .new 23, 3), (64, .dup, 1), (65, .ldc 117, 2), (67, .invokespecial 27, 3), (70, .athrow, 1)]
set_option maxRecDepth 100000 in
theorem jD24 : ∀ q ∈ jP24, decode prog_1_method_6_code q.1 = .ok q.2 := by decide +kernel
/-- LinkedCores.code(II)I -/
def jP25 : List (Nat × Instr × Nat) := [(0, .aload_n 0, 1), (1, .iload_n 1, 1), (2, .invokevirtual 98, 3), (5, .astore_n 3, 1), (6, .iload_n 2, 1), (7, .ifCond .lt 12, 3), (10, .iload_n 2, 1), (11, .aload_n 3, 1), (12, .getfield 102, 3), (15, .arraylength, 1), (16, .if_icmp .lt 13, 3), (19, .new 119, 3), (22, .dup, 1), (23, .ldc 121, 2), (25, .invokespecial 123, 3), (28, .athrow, 1), (29, .aload_n 3, 1), (30, .getfield 102, 3), (33, .iload_n 2, 1), (34, .baload, 1), (35, .sipush 255, 3), (38, .iand, 1), (39, .ireturn, 1)]
set_option maxRecDepth 100000 in
theorem jD25 : ∀ q ∈ jP25, decode prog_1_method_7_code q.1 = .ok q.2 := by decide +kernel
/-- LinkedCores.instruction(III)I -/
def jP26 : List (Nat × Instr × Nat) := [(0, .aload_n 0, 1), (1, .iload_n 1, 1), (2, .invokevirtual 98, 3), (5, .astore 4, 2), (7, .iload_n 2, 1), (8, .ifCond .lt 13, 3), (11, .iload_n 2, 1), (12, .aload 4, 2), (14, .getfield 102, 3), (17, .arraylength, 1), (18, .if_icmp .lt 13, 3), (21, .new 119, 3), (24, .dup, 1), (25, .ldc 121, 2), (27, .invokespecial 123, 3), (30, .athrow, 1), (31, .iload_n 3, 1), (32, .ifCond .lt 8, 3), (35, .iload_n 3, 1), (36, .iconst 2, 1), (37, .if_icmp .le 13, 3), (40, .new 23, 3), (43, .dup, 1), (44, .ldc 124, 2), (46, .invokespecial 27, 3), (49, .athrow, 1), (50, .aload 4, 2), (52, .iload_n 2, 1), (53, .iload_n 3, 1), (54, .invokevirtual 126, 3), (57, .ireturn, 1)]
set_option maxRecDepth 100000 in
theorem jD26 : ∀ q ∈ jP26, decode prog_1_method_8_code q.1 = .ok q.2 := by decide +kernel
/-- LinkedCores.link(II)I -/
def jP27 : List (Nat × Instr × Nat) := [(0, .aload_n 0, 1), (1, .invokevirtual 130, 3), (4, .iload_n 1, 1), (5, .invokevirtual 134, 3), (8, .astore_n 3, 1), (9, .aload_n 3, 1), (10, .ifnonnull 13, 3), (13, .new 119, 3), (16, .dup, 1), (17, .ldc 138, 2), (19, .invokespecial 123, 3), (22, .athrow, 1), (23, .iload_n 2, 1), (24, .tableswitch 97 0 5 #[40, 45, 50, 66, 79, 92], 40), (64, .aload_n 3, 1), (65, .getfield 140, 3), (68, .ireturn, 1), (69, .aload_n 3, 1), (70, .getfield 145, 3), (73, .ireturn, 1), (74, .aload_n 3, 1), (75, .getfield 148, 3), (78, .ifCond .eq 7, 3), (81, .iconst 0, 1), (82, .goto 7, 3), (85, .aload_n 3, 1), (86, .getfield 152, 3), (89, .ireturn, 1), (90, .aload_n 3, 1), (91, .getfield 155, 3), (94, .ifCond .eq 7, 3), (97, .iconst 1, 1), (98, .goto 4, 3), (101, .iconst 0, 1), (102, .ireturn, 1), (103, .aload_n 3, 1), (104, .getfield 158, 3), (107, .ifCond .eq 7, 3), (110, .iconst 1, 1), (111, .goto 4, 3), (114, .iconst 0, 1), (115, .ireturn, 1), (116, .aload_n 3, 1), (117, .getfield 161, 3), (120, .ireturn, 1), (121, .new 23, 3), (124, .dup, 1), (125, .ldc 164, 2), (127, .invokespecial 27, 3), (130, .athrow, 1)]
set_option maxRecDepth 100000 in
theorem jD27 : ∀ q ∈ jP27, decode prog_1_method_9_code q.1 = .ok q.2 := by decide +kernel
/-- LinkedCores.begin()V -/
def jP28 : List (Nat × Instr × Nat) := [(0, .aload_n 0, 1), (1, .invokevirtual 130, 3), (4, .invokevirtual 166, 3), (7, .return_, 1)]
set_option maxRecDepth 100000 in
theorem jD28 : ∀ q ∈ jP28, decode prog_1_method_10_code q.1 = .ok q.2 := by decide +kernel
/-- LinkedCores.input(I)I -/
def jP29 : List (Nat × Instr × Nat) := [(0, .aload_n 0, 1), (1, .invokevirtual 130, 3), (4, .astore_n 2, 1), (5, .aload_n 2, 1), (6, .getfield 169, 3), (9, .aload_n 2, 1), (10, .getfield 172, 3), (13, .arraylength, 1), (14, .if_icmp .lt 13, 3), (17, .new 30, 3), (20, .dup, 1), (21, .ldc 175, 2), (23, .invokespecial 34, 3), (26, .athrow, 1), (27, .aload_n 2, 1), (28, .iload_n 1, 1), (29, .invokevirtual 177, 3), (32, .aload_n 2, 1), (33, .getfield 169, 3), (36, .ireturn, 1)]
set_option maxRecDepth 100000 in
theorem jD29 : ∀ q ∈ jP29, decode prog_1_method_11_code q.1 = .ok q.2 := by decide +kernel
/-- LinkedCores.run(II)I -/
def jP30 : List (Nat × Instr × Nat) := [(0, .aload_n 0, 1), (1, .iload_n 1, 1), (2, .invokevirtual 98, 3), (5, .astore_n 3, 1), (6, .iload_n 2, 1), (7, .ifCond .lt 10, 3), (10, .iload_n 2, 1), (11, .sipush 5000, 3), (14, .if_icmp .le 13, 3), (17, .new 23, 3), (20, .dup, 1), (21, .ldc 181, 2), (23, .invokespecial 27, 3), (26, .athrow, 1), (27, .iconst 0, 1), (28, .istore 4, 2), (30, .iconst 0, 1), (31, .istore 5, 2), (33, .iload 5, 2), (35, .iload_n 2, 1), (36, .if_icmp .ge 23, 3), (39, .aload_n 3, 1), (40, .getfield 183, 3), (43, .ifCond .eq 16, 3), (46, .aload_n 3, 1), (47, .invokevirtual 186, 3), (50, .iinc 4 1, 3), (53, .iinc 5 1, 3), (56, .goto (-23), 3), (59, .iload 4, 2), (61, .ireturn, 1)]
set_option maxRecDepth 100000 in
theorem jD30 : ∀ q ∈ jP30, decode prog_1_method_12_code q.1 = .ok q.2 := by decide +kernel
/-- LinkedCores.beat(I)I -/
def jP31 : List (Nat × Instr × Nat) := [(0, .aload_n 0, 1), (1, .invokevirtual 130, 3), (4, .astore_n 2, 1), (5, .iload_n 1, 1), (6, .ifCond .lt 10, 3), (9, .iload_n 1, 1), (10, .sipush 1000, 3), (13, .if_icmp .le 13, 3), (16, .new 23, 3), (19, .dup, 1), (20, .ldc 189, 2), (22, .invokespecial 27, 3), (25, .athrow, 1), (26, .iconst 0, 1), (27, .istore_n 3, 1), (28, .iconst 0, 1), (29, .istore 4, 2), (31, .iload 4, 2), (33, .iload_n 1, 1), (34, .if_icmp .ge 16, 3), (37, .iload_n 3, 1), (38, .aload_n 2, 1), (39, .invokevirtual 191, 3), (42, .iadd, 1), (43, .istore_n 3, 1), (44, .iinc 4 1, 3), (47, .goto (-16), 3), (50, .iload_n 3, 1), (51, .ireturn, 1)]
set_option maxRecDepth 100000 in
theorem jD31 : ∀ q ∈ jP31, decode prog_1_method_13_code q.1 = .ok q.2 := by decide +kernel
/-- LinkedCores.rounds(I)I -/
def jP32 : List (Nat × Instr × Nat) := [(0, .aload_n 0, 1), (1, .invokevirtual 130, 3), (4, .astore_n 2, 1), (5, .iload_n 1, 1), (6, .ifCond .lt 10, 3), (9, .iload_n 1, 1), (10, .sipush 5000, 3), (13, .if_icmp .le 13, 3), (16, .new 23, 3), (19, .dup, 1), (20, .ldc 194, 2), (22, .invokespecial 27, 3), (25, .athrow, 1), (26, .iconst 0, 1), (27, .istore_n 3, 1), (28, .iconst 0, 1), (29, .istore 4, 2), (31, .iload 4, 2), (33, .iload_n 1, 1), (34, .if_icmp .ge 23, 3), (37, .aload_n 2, 1), (38, .invokevirtual 196, 3), (41, .ifCond .ne 16, 3), (44, .aload_n 2, 1), (45, .invokevirtual 199, 3), (48, .iinc 3 1, 3), (51, .iinc 4 1, 3), (54, .goto (-23), 3), (57, .iload_n 3, 1), (58, .ireturn, 1)]
set_option maxRecDepth 100000 in
theorem jD32 : ∀ q ∈ jP32, decode prog_1_method_14_code q.1 = .ok q.2 := by decide +kernel
/-- LinkedCores.outcome()I -/
def jP33 : List (Nat × Instr × Nat) := [(0, .aload_n 0, 1), (1, .invokevirtual 130, 3), (4, .invokevirtual 196, 3), (7, .ireturn, 1)]
set_option maxRecDepth 100000 in
theorem jD33 : ∀ q ∈ jP33, decode prog_1_method_15_code q.1 = .ok q.2 := by decide +kernel
/-- LinkedCores.core(II)I -/
def jP34 : List (Nat × Instr × Nat) := [(0, .aload_n 0, 1), (1, .iload_n 1, 1), (2, .invokevirtual 98, 3), (5, .astore_n 3, 1), (6, .iload_n 2, 1), (7, .ifCond .lt 9, 3), (10, .iload_n 2, 1), (11, .bipush 12, 2), (13, .if_icmp .le 13, 3), (16, .new 23, 3), (19, .dup, 1), (20, .ldc 202, 2), (22, .invokespecial 27, 3), (25, .athrow, 1), (26, .iload_n 2, 1), (27, .iconst 5, 1), (28, .if_icmp .le 9, 3), (31, .iload_n 2, 1), (32, .bipush 12, 2), (34, .if_icmp .ne 11, 3), (37, .aload_n 3, 1), (38, .iload_n 2, 1), (39, .invokevirtual 204, 3), (42, .goto 8, 3), (45, .aload_n 3, 1), (46, .iload_n 2, 1), (47, .invokevirtual 208, 3), (50, .ireturn, 1)]
set_option maxRecDepth 100000 in
theorem jD34 : ∀ q ∈ jP34, decode prog_1_method_16_code q.1 = .ok q.2 := by decide +kernel
/-- LinkedCores.ready(II)I -/
def jP35 : List (Nat × Instr × Nat) := [(0, .aload_n 0, 1), (1, .iload_n 1, 1), (2, .invokevirtual 98, 3), (5, .astore_n 3, 1), (6, .iload_n 2, 1), (7, .ifCond .lt 20, 3), (10, .iload_n 2, 1), (11, .aload_n 3, 1), (12, .getfield 211, 3), (15, .if_icmp .ge 12, 3), (18, .iload_n 2, 1), (19, .aload_n 3, 1), (20, .getfield 214, 3), (23, .arraylength, 1), (24, .if_icmp .lt 13, 3), (27, .new 119, 3), (30, .dup, 1), (31, .ldc 217, 2), (33, .invokespecial 123, 3), (36, .athrow, 1), (37, .aload_n 3, 1), (38, .getfield 214, 3), (41, .iload_n 2, 1), (42, .iaload, 1), (43, .ireturn, 1)]
set_option maxRecDepth 100000 in
theorem jD35 : ∀ q ∈ jP35, decode prog_1_method_17_code q.1 = .ok q.2 := by decide +kernel
/-- LinkedCores.word(II)I -/
def jP36 : List (Nat × Instr × Nat) := [(0, .aload_n 0, 1), (1, .iload_n 1, 1), (2, .invokevirtual 98, 3), (5, .astore_n 3, 1), (6, .iload_n 2, 1), (7, .ifCond .lt 12, 3), (10, .iload_n 2, 1), (11, .aload_n 3, 1), (12, .getfield 107, 3), (15, .arraylength, 1), (16, .if_icmp .lt 13, 3), (19, .new 119, 3), (22, .dup, 1), (23, .ldc 219, 2), (25, .invokespecial 123, 3), (28, .athrow, 1), (29, .aload_n 3, 1), (30, .getfield 107, 3), (33, .iload_n 2, 1), (34, .iaload, 1), (35, .ireturn, 1)]
set_option maxRecDepth 100000 in
theorem jD36 : ∀ q ∈ jP36, decode prog_1_method_18_code q.1 = .ok q.2 := by decide +kernel
/-- LinkedCores.output(I)I -/
def jP37 : List (Nat × Instr × Nat) := [(0, .aload_n 0, 1), (1, .invokevirtual 130, 3), (4, .astore_n 2, 1), (5, .iload_n 1, 1), (6, .ifCond .lt 20, 3), (9, .iload_n 1, 1), (10, .aload_n 2, 1), (11, .getfield 221, 3), (14, .if_icmp .ge 12, 3), (17, .iload_n 1, 1), (18, .aload_n 2, 1), (19, .getfield 224, 3), (22, .arraylength, 1), (23, .if_icmp .lt 13, 3), (26, .new 119, 3), (29, .dup, 1), (30, .ldc 227, 2), (32, .invokespecial 123, 3), (35, .athrow, 1), (36, .aload_n 2, 1), (37, .getfield 224, 3), (40, .iload_n 1, 1), (41, .iaload, 1), (42, .ireturn, 1)]
set_option maxRecDepth 100000 in
theorem jD37 : ∀ q ∈ jP37, decode prog_1_method_19_code q.1 = .ok q.2 := by decide +kernel
/-- LinkedCores.about(I)I -/
def jP38 : List (Nat × Instr × Nat) := [(0, .aload_n 0, 1), (1, .invokevirtual 130, 3), (4, .astore_n 2, 1), (5, .iload_n 1, 1), (6, .tableswitch 86 0 6 #[42, 50, 55, 60, 68, 76, 81], 42), (48, .aload_n 2, 1), (49, .getfield 229, 3), (52, .getfield 233, 3), (55, .ireturn, 1), (56, .aload_n 2, 1), (57, .getfield 236, 3), (60, .ireturn, 1), (61, .aload_n 2, 1), (62, .getfield 221, 3), (65, .ireturn, 1), (66, .aload_n 2, 1), (67, .getfield 229, 3), (70, .getfield 239, 3), (73, .ireturn, 1), (74, .aload_n 2, 1), (75, .getfield 229, 3), (78, .getfield 242, 3), (81, .ireturn, 1), (82, .aload_n 2, 1), (83, .getfield 245, 3), (86, .ireturn, 1), (87, .aload_n 2, 1), (88, .getfield 248, 3), (91, .ireturn, 1), (92, .new 23, 3), (95, .dup, 1), (96, .ldc 251, 2), (98, .invokespecial 27, 3), (101, .athrow, 1)]
set_option maxRecDepth 100000 in
theorem jD38 : ∀ q ∈ jP38, decode prog_1_method_20_code q.1 = .ok q.2 := by decide +kernel
/-- LinkedCores.loaded()LLinkedCores$Machine; -/
def jP39 : List (Nat × Instr × Nat) := [(0, .aload_n 0, 1), (1, .getfield 40, 3), (4, .astore_n 1, 1), (5, .aload_n 1, 1), (6, .ifnonnull 13, 3), (9, .new 253, 3), (12, .dup, 1), (13, .ldc 255, 2), (15, .invokespecial 257, 3), (18, .athrow, 1), (19, .aload_n 1, 1), (20, .areturn, 1)]
set_option maxRecDepth 100000 in
theorem jD39 : ∀ q ∈ jP39, decode prog_1_method_21_code q.1 = .ok q.2 := by decide +kernel
/-- LinkedCores.coreOf(I)LLinkedCores$Core; -/
def jP40 : List (Nat × Instr × Nat) := [(0, .aload_n 0, 1), (1, .invokevirtual 130, 3), (4, .iload_n 1, 1), (5, .invokevirtual 258, 3), (8, .astore_n 2, 1), (9, .aload_n 2, 1), (10, .ifnonnull 14, 3), (13, .new 261, 3), (16, .dup, 1), (17, .ldc_w 263, 3), (20, .invokespecial 265, 3), (23, .athrow, 1), (24, .aload_n 2, 1), (25, .areturn, 1)]
set_option maxRecDepth 100000 in
theorem jD40 : ∀ q ∈ jP40, decode prog_1_method_22_code q.1 = .ok q.2 := by decide +kernel
/-- LinkedCores.build(LLinkedCores$Program;)LLinkedCores$Machine; -/
def jP41 : List (Nat × Instr × Nat) := [(0, .aload_n 0, 1), (1, .getfield 266, 3), (4, .astore_n 2, 1), (5, .aload_n 2, 1), (6, .ifnonnull 16, 3), (9, .new 270, 3), (12, .dup, 1), (13, .invokespecial 272, 3), (16, .astore_n 2, 1), (17, .aload_n 0, 1), (18, .aload_n 2, 1), (19, .putfield 266, 3), (22, .new 91, 3), (25, .dup, 1), (26, .aload_n 1, 1), (27, .invokespecial 273, 3), (30, .astore_n 3, 1), (31, .iconst 0, 1), (32, .istore 4, 2), (34, .iload 4, 2), (36, .bipush 6, 2), (38, .if_icmp .ge 75, 3), (41, .aload_n 1, 1), (42, .getfield 274, 3), (45, .iload 4, 2), (47, .aaload, 1), (48, .astore 5, 2), (50, .aload 5, 2), (52, .ifnonnull 6, 3), (55, .goto 52, 3), (58, .aload_n 2, 1), (59, .aload_n 1, 1), (60, .aload 5, 2), (62, .invokevirtual 278, 3), (65, .aload_n 2, 1), (66, .getfield 282, 3), (69, .ifCond .eq 13, 3), (72, .aload_n 1, 1), (73, .bipush 6, 2), (75, .iconst (-1), 1), (76, .iconst (-1), 1), (77, .invokevirtual 285, 3), (80, .aconst_null, 1), (81, .areturn, 1), (82, .aload_n 3, 1), (83, .getfield 289, 3), (86, .iload 4, 2), (88, .new 103, 3), (91, .dup, 1), (92, .aload_n 3, 1), (93, .aload_n 2, 1), (94, .invokevirtual 293, 3), (97, .aload_n 2, 1), (98, .invokevirtual 297, 3), (101, .aload 5, 2), (103, .invokespecial 299, 3), (106, .aastore, 1), (107, .iinc 4 1, 3), (110, .goto (-76), 3), (113, .aload_n 3, 1), (114, .invokevirtual 166, 3), (117, .aload_n 3, 1), (118, .areturn, 1)]
set_option maxRecDepth 100000 in
theorem jD41 : ∀ q ∈ jP41, decode prog_1_method_23_code q.1 = .ok q.2 := by decide +kernel
/-- LinkedCores$Coder.<init>()V -/
def jP42 : List (Nat × Instr × Nat) := [(0, .aload_n 0, 1), (1, .invokespecial 3, 3), (4, .aload_n 0, 1), (5, .sipush 6000, 3), (8, .newarray .byte, 2), (10, .putfield 9, 3), (13, .aload_n 0, 1), (14, .sipush 6000, 3), (17, .newarray .int, 2), (19, .putfield 15, 3), (22, .aload_n 0, 1), (23, .sipush 6000, 3), (26, .newarray .int, 2), (28, .putfield 19, 3), (31, .aload_n 0, 1), (32, .sipush 6000, 3), (35, .newarray .int, 2), (37, .putfield 22, 3), (40, .aload_n 0, 1), (41, .sipush 6000, 3), (44, .newarray .byte, 2), (46, .putfield 25, 3), (49, .aload_n 0, 1), (50, .sipush 6001, 3), (53, .newarray .int, 2), (55, .putfield 28, 3), (58, .aload_n 0, 1), (59, .sipush 6000, 3), (62, .newarray .int, 2), (64, .putfield 31, 3), (67, .return_, 1)]
set_option maxRecDepth 100000 in
theorem jD42 : ∀ q ∈ jP42, decode prog_2_method_1_code q.1 = .ok q.2 := by decide +kernel
/-- LinkedCores$Coder.translate(LLinkedCores$Program;LLinkedCores$Node;)V -/
def jP43_0 : List (Nat × Instr × Nat) := [(0, .aload_n 0, 1), (1, .iconst 0, 1), (2, .putfield 34, 3), (5, .aload_n 0, 1), (6, .iconst 0, 1), (7, .putfield 38, 3), (10, .aload_n 0, 1), (11, .iconst 0, 1), (12, .putfield 41, 3), (15, .aload_n 0, 1), (16, .iconst 0, 1), (17, .putfield 45, 3), (20, .iconst 0, 1), (21, .istore_n 3, 1), (22, .iload_n 3, 1), (23, .aload_n 1, 1), (24, .getfield 48, 3), (27, .if_icmp .ge 91, 3), (30, .iload_n 3, 1), (31, .aload_n 1, 1), (32, .getfield 53, 3), (35, .arraylength, 1), (36, .if_icmp .ge 82, 3), (39, .aload_n 1, 1), (40, .getfield 53, 3), (43, .iload_n 3, 1), (44, .aaload, 1), (45, .astore 4, 2), (47, .aload 4, 2), (49, .ifnull 63, 3), (52, .aload 4, 2), (54, .aload_n 0, 1), (55, .invokevirtual 57, 3), (58, .putfield 61, 3), (61, .aload_n 0, 1)]
set_option maxRecDepth 100000 in
theorem jD43_0 : ∀ q ∈ jP43_0, decode prog_2_method_2_code q.1 = .ok q.2 := by decide +kernel
def jP43_1 : List (Nat × Instr × Nat) := [(62, .aload 4, 2), (64, .getfield 61, 3), (67, .invokevirtual 66, 3), (70, .aload_n 0, 1), (71, .bipush 11, 2), (73, .aload 4, 2), (75, .getfield 70, 3), (78, .iconst 3, 1), (79, .iadd, 1), (80, .ineg, 1), (81, .invokevirtual 73, 3), (84, .aload_n 0, 1), (85, .aload 4, 2), (87, .getfield 77, 3), (90, .invokevirtual 81, 3), (93, .aload_n 0, 1), (94, .bipush 11, 2), (96, .aload 4, 2), (98, .getfield 70, 3), (101, .iconst 3, 1), (102, .iadd, 1), (103, .invokevirtual 73, 3), (106, .aload_n 0, 1), (107, .bipush 19, 2), (109, .invokevirtual 85, 3), (112, .iinc 3 1, 3), (115, .goto (-93), 3), (118, .aload_n 0, 1), (119, .aload_n 0, 1), (120, .invokevirtual 57, 3), (123, .putfield 88, 3), (126, .aload_n 0, 1), (127, .aload_n 0, 1), (128, .getfield 88, 3), (131, .invokevirtual 66, 3)]
set_option maxRecDepth 100000 in
theorem jD43_1 : ∀ q ∈ jP43_1, decode prog_2_method_2_code q.1 = .ok q.2 := by decide +kernel
def jP43_2 : List (Nat × Instr × Nat) := [(134, .aload_n 0, 1), (135, .aload_n 2, 1), (136, .invokevirtual 81, 3), (139, .aload_n 0, 1), (140, .bipush 31, 2), (142, .invokevirtual 85, 3), (145, .iconst 0, 1), (146, .istore_n 3, 1), (147, .iload_n 3, 1), (148, .aload_n 0, 1), (149, .getfield 34, 3), (152, .if_icmp .ge 39, 3), (155, .aload_n 0, 1), (156, .getfield 25, 3), (159, .iload_n 3, 1), (160, .aload_n 0, 1), (161, .getfield 19, 3), (164, .iload_n 3, 1), (165, .iaload, 1), (166, .iconst (-1), 1), (167, .if_icmp .ne 15, 3), (170, .aload_n 0, 1), (171, .getfield 15, 3), (174, .iload_n 3, 1), (175, .iaload, 1), (176, .invokestatic 91, 3), (179, .goto 4, 3), (182, .iconst 1, 1), (183, .i2b, 1), (184, .bastore, 1), (185, .iinc 3 1, 3), (188, .goto (-41), 3), (191, .iconst 0, 1), (192, .istore_n 3, 1), (193, .iload_n 3, 1)]
set_option maxRecDepth 100000 in
theorem jD43_2 : ∀ q ∈ jP43_2, decode prog_2_method_2_code q.1 = .ok q.2 := by decide +kernel
def jP43_3 : List (Nat × Instr × Nat) := [(194, .ldc 95, 2), (196, .if_icmp .ge 26, 3), (199, .aload_n 0, 1), (200, .getfield 41, 3), (203, .ifCond .ne 19, 3), (206, .aload_n 0, 1), (207, .invokevirtual 96, 3), (210, .ifCond .ne 6, 3), (213, .goto 9, 3), (216, .iinc 3 1, 3), (219, .goto (-26), 3), (222, .return_, 1)]
set_option maxRecDepth 100000 in
theorem jD43_3 : ∀ q ∈ jP43_3, decode prog_2_method_2_code q.1 = .ok q.2 := by decide +kernel
def jP43 : List (Nat × Instr × Nat) := jP43_0 ++ (jP43_1 ++ (jP43_2 ++ (jP43_3)))
theorem jD43 : ∀ q ∈ jP43, decode prog_2_method_2_code q.1 = .ok q.2 := jApp jD43_0 (jApp jD43_1 (jApp jD43_2 jD43_3))
/-- LinkedCores$Coder.start()I -/
def jP44 : List (Nat × Instr × Nat) := [(0, .aload_n 0, 1), (1, .aload_n 0, 1), (2, .getfield 88, 3), (5, .invokevirtual 100, 3), (8, .ireturn, 1)]
set_option maxRecDepth 100000 in
theorem jD44 : ∀ q ∈ jP44, decode prog_2_method_3_code q.1 = .ok q.2 := by decide +kernel
/-- LinkedCores$Coder.bytes()[B -/
def jP45 : List (Nat × Instr × Nat) := [(0, .iconst 0, 1), (1, .aload_n 0, 1), (2, .getfield 28, 3), (5, .aload_n 0, 1), (6, .getfield 34, 3), (9, .iaload, 1), (10, .sipush 6000, 3), (13, .invokestatic 103, 3), (16, .invokestatic 109, 3), (19, .newarray .byte, 2), (21, .astore_n 1, 1), (22, .iconst 0, 1), (23, .istore_n 2, 1), (24, .iload_n 2, 1), (25, .aload_n 0, 1), (26, .getfield 34, 3), (29, .if_icmp .ge 15, 3), (32, .aload_n 0, 1), (33, .aload_n 1, 1), (34, .iload_n 2, 1), (35, .invokevirtual 112, 3), (38, .iinc 2 1, 3), (41, .goto (-17), 3), (44, .aload_n 1, 1), (45, .areturn, 1)]
set_option maxRecDepth 100000 in
theorem jD45 : ∀ q ∈ jP45, decode prog_2_method_4_code q.1 = .ok q.2 := by decide +kernel
/-- LinkedCores$Coder.emit(II)V -/
def jP46 : List (Nat × Instr × Nat) := [(0, .aload_n 0, 1), (1, .getfield 34, 3), (4, .sipush 6000, 3), (7, .if_icmp .lt 9, 3), (10, .aload_n 0, 1), (11, .iconst 1, 1), (12, .putfield 41, 3), (15, .return_, 1), (16, .aload_n 0, 1), (17, .getfield 9, 3), (20, .aload_n 0, 1), (21, .getfield 34, 3), (24, .iload_n 1, 1), (25, .i2b, 1), (26, .bastore, 1), (27, .aload_n 0, 1), (28, .getfield 15, 3), (31, .aload_n 0, 1), (32, .getfield 34, 3), (35, .iload_n 2, 1), (36, .iastore, 1), (37, .aload_n 0, 1), (38, .getfield 19, 3), (41, .aload_n 0, 1), (42, .getfield 34, 3), (45, .iconst (-1), 1), (46, .iastore, 1), (47, .aload_n 0, 1), (48, .dup, 1), (49, .getfield 34, 3), (52, .iconst 1, 1), (53, .iadd, 1), (54, .putfield 34, 3), (57, .return_, 1)]
set_option maxRecDepth 100000 in
theorem jD46 : ∀ q ∈ jP46, decode prog_2_method_5_code q.1 = .ok q.2 := by decide +kernel
/-- LinkedCores$Coder.operation(I)V -/
def jP47 : List (Nat × Instr × Nat) := [(0, .aload_n 0, 1), (1, .bipush 15, 2), (3, .iload_n 1, 1), (4, .invokevirtual 73, 3), (7, .return_, 1)]
set_option maxRecDepth 100000 in
theorem jD47 : ∀ q ∈ jP47, decode prog_2_method_6_code q.1 = .ok q.2 := by decide +kernel
/-- LinkedCores$Coder.way(III)V -/
def jP48 : List (Nat × Instr × Nat) := [(0, .aload_n 0, 1), (1, .getfield 34, 3), (4, .istore 4, 2), (6, .aload_n 0, 1), (7, .iload_n 1, 1), (8, .iconst 0, 1), (9, .invokevirtual 73, 3), (12, .iload 4, 2), (14, .aload_n 0, 1), (15, .getfield 34, 3), (18, .if_icmp .ge 19, 3), (21, .aload_n 0, 1), (22, .getfield 19, 3), (25, .iload 4, 2), (27, .iload_n 2, 1), (28, .iastore, 1), (29, .aload_n 0, 1), (30, .getfield 22, 3), (33, .iload 4, 2), (35, .iload_n 3, 1), (36, .iastore, 1), (37, .return_, 1)]
set_option maxRecDepth 100000 in
theorem jD48 : ∀ q ∈ jP48, decode prog_2_method_7_code q.1 = .ok q.2 := by decide +kernel
/-- LinkedCores$Coder.newLabel()I -/
def jP49 : List (Nat × Instr × Nat) := [(0, .aload_n 0, 1), (1, .getfield 38, 3), (4, .aload_n 0, 1), (5, .getfield 31, 3), (8, .arraylength, 1), (9, .if_icmp .lt 10, 3), (12, .aload_n 0, 1), (13, .iconst 1, 1), (14, .putfield 41, 3), (17, .iconst 0, 1), (18, .ireturn, 1), (19, .aload_n 0, 1), (20, .getfield 31, 3), (23, .aload_n 0, 1), (24, .getfield 38, 3), (27, .iconst 0, 1), (28, .iastore, 1), (29, .aload_n 0, 1), (30, .dup, 1), (31, .getfield 38, 3), (34, .iconst 1, 1), (35, .iadd, 1), (36, .putfield 38, 3), (39, .aload_n 0, 1), (40, .getfield 38, 3), (43, .iconst 1, 1), (44, .isub, 1), (45, .ireturn, 1)]
set_option maxRecDepth 100000 in
theorem jD49 : ∀ q ∈ jP49, decode prog_2_method_8_code q.1 = .ok q.2 := by decide +kernel
/-- LinkedCores$Coder.here(I)V -/
def jP50 : List (Nat × Instr × Nat) := [(0, .iload_n 1, 1), (1, .ifCond .lt 22, 3), (4, .iload_n 1, 1), (5, .aload_n 0, 1), (6, .getfield 31, 3), (9, .arraylength, 1), (10, .if_icmp .ge 13, 3), (13, .aload_n 0, 1), (14, .getfield 31, 3), (17, .iload_n 1, 1), (18, .aload_n 0, 1), (19, .getfield 34, 3), (22, .iastore, 1), (23, .return_, 1)]
set_option maxRecDepth 100000 in
theorem jD50 : ∀ q ∈ jP50, decode prog_2_method_9_code q.1 = .ok q.2 := by decide +kernel
/-- LinkedCores$Coder.placeOf(I)I -/
def jP51 : List (Nat × Instr × Nat) := [(0, .iload_n 1, 1), (1, .ifCond .lt 21, 3), (4, .iload_n 1, 1), (5, .aload_n 0, 1), (6, .getfield 31, 3), (9, .arraylength, 1), (10, .if_icmp .ge 12, 3), (13, .aload_n 0, 1), (14, .getfield 31, 3), (17, .iload_n 1, 1), (18, .iaload, 1), (19, .goto 4, 3), (22, .iconst 0, 1), (23, .istore_n 2, 1), (24, .iload_n 2, 1), (25, .ifCond .lt 21, 3), (28, .iload_n 2, 1), (29, .aload_n 0, 1), (30, .getfield 28, 3), (33, .arraylength, 1), (34, .if_icmp .ge 12, 3), (37, .aload_n 0, 1), (38, .getfield 28, 3), (41, .iload_n 2, 1), (42, .iaload, 1), (43, .goto 4, 3), (46, .iconst 0, 1), (47, .ireturn, 1)]
set_option maxRecDepth 100000 in
theorem jD51 : ∀ q ∈ jP51, decode prog_2_method_10_code q.1 = .ok q.2 := by decide +kernel
/-- LinkedCores$Coder.lengthOf(I)I -/
def jP52 : List (Nat × Instr × Nat) := [(0, .iload_n 0, 1), (1, .ifCond .ge 11, 3), (4, .iload_n 0, 1), (5, .iconst (-1), 1), (6, .ixor, 1), (7, .iconst 4, 1), (8, .iushr, 1), (9, .goto 6, 3), (12, .iload_n 0, 1), (13, .iconst 4, 1), (14, .iushr, 1), (15, .istore_n 1, 1), (16, .iload_n 0, 1), (17, .ifCond .ge 7, 3), (20, .iconst 2, 1), (21, .goto 4, 3), (24, .iconst 1, 1), (25, .istore_n 2, 1), (26, .iload_n 0, 1), (27, .ifCond .ge 7, 3), (30, .iload_n 1, 1), (31, .iconst 4, 1), (32, .iushr, 1), (33, .istore_n 1, 1), (34, .iconst 0, 1), (35, .istore_n 3, 1), (36, .iload_n 3, 1), (37, .bipush 8, 2), (39, .if_icmp .ge 20, 3), (42, .iload_n 1, 1), (43, .ifCond .eq 16, 3), (46, .iload_n 1, 1), (47, .iconst 4, 1), (48, .iushr, 1), (49, .istore_n 1, 1), (50, .iinc 2 1, 3), (53, .iinc 3 1, 3), (56, .goto (-20), 3), (59, .iload_n 2, 1), (60, .ireturn, 1)]
set_option maxRecDepth 100000 in
theorem jD52 : ∀ q ∈ jP52, decode prog_2_method_11_code q.1 = .ok q.2 := by decide +kernel
/-- LinkedCores$Coder.lengthen()Z -/
def jP53_0 : List (Nat × Instr × Nat) := [(0, .aload_n 0, 1), (1, .getfield 28, 3), (4, .iconst 0, 1), (5, .iconst 0, 1), (6, .iastore, 1), (7, .iconst 0, 1), (8, .istore_n 1, 1), (9, .iload_n 1, 1), (10, .aload_n 0, 1), (11, .getfield 34, 3), (14, .if_icmp .ge 30, 3), (17, .aload_n 0, 1), (18, .getfield 28, 3), (21, .iload_n 1, 1), (22, .iconst 1, 1), (23, .iadd, 1), (24, .aload_n 0, 1), (25, .getfield 28, 3), (28, .iload_n 1, 1), (29, .iaload, 1), (30, .aload_n 0, 1), (31, .getfield 25, 3), (34, .iload_n 1, 1), (35, .baload, 1), (36, .iadd, 1), (37, .iastore, 1), (38, .iinc 1 1, 3), (41, .goto (-32), 3), (44, .aload_n 0, 1), (45, .getfield 28, 3), (48, .aload_n 0, 1), (49, .getfield 34, 3), (52, .iaload, 1), (53, .sipush 6000, 3), (56, .if_icmp .le 10, 3), (59, .aload_n 0, 1), (60, .iconst 1, 1), (61, .putfield 41, 3), (64, .iconst 0, 1), (65, .ireturn, 1), (66, .iconst 0, 1), (67, .istore_n 1, 1), (68, .iconst 0, 1), (69, .istore_n 2, 1), (70, .iload_n 2, 1), (71, .aload_n 0, 1), (72, .getfield 34, 3), (75, .if_icmp .ge 71, 3), (78, .aload_n 0, 1), (79, .getfield 19, 3), (82, .iload_n 2, 1), (83, .iaload, 1), (84, .iconst (-1), 1), (85, .if_icmp .eq 55, 3)]
set_option maxRecDepth 100000 in
theorem jD53_0 : ∀ q ∈ jP53_0, decode prog_2_method_12_code q.1 = .ok q.2 := by decide +kernel
def jP53_1 : List (Nat × Instr × Nat) := [(88, .aload_n 0, 1), (89, .getfield 15, 3), (92, .iload_n 2, 1), (93, .aload_n 0, 1), (94, .aload_n 0, 1), (95, .getfield 19, 3), (98, .iload_n 2, 1), (99, .iaload, 1), (100, .invokevirtual 100, 3), (103, .aload_n 0, 1), (104, .iload_n 2, 1), (105, .invokevirtual 116, 3), (108, .isub, 1), (109, .iastore, 1), (110, .aload_n 0, 1), (111, .getfield 15, 3), (114, .iload_n 2, 1), (115, .iaload, 1), (116, .invokestatic 91, 3), (119, .istore_n 3, 1), (120, .iload_n 3, 1), (121, .aload_n 0, 1), (122, .getfield 25, 3), (125, .iload_n 2, 1), (126, .baload, 1), (127, .if_icmp .le 13, 3), (130, .aload_n 0, 1), (131, .getfield 25, 3), (134, .iload_n 2, 1), (135, .iload_n 3, 1), (136, .i2b, 1), (137, .bastore, 1), (138, .iconst 1, 1), (139, .istore_n 1, 1), (140, .iinc 2 1, 3), (143, .goto (-73), 3), (146, .iload_n 1, 1), (147, .ireturn, 1)]
set_option maxRecDepth 100000 in
theorem jD53_1 : ∀ q ∈ jP53_1, decode prog_2_method_12_code q.1 = .ok q.2 := by decide +kernel
def jP53 : List (Nat × Instr × Nat) := jP53_0 ++ (jP53_1)
theorem jD53 : ∀ q ∈ jP53, decode prog_2_method_12_code q.1 = .ok q.2 := jApp jD53_0 jD53_1
/-- LinkedCores$Coder.originOf(I)I -/
def jP54 : List (Nat × Instr × Nat) := [(0, .aload_n 0, 1), (1, .getfield 22, 3), (4, .iload_n 1, 1), (5, .iaload, 1), (6, .ifCond .lt 14, 3), (9, .aload_n 0, 1), (10, .aload_n 0, 1), (11, .getfield 22, 3), (14, .iload_n 1, 1), (15, .iaload, 1), (16, .invokevirtual 100, 3), (19, .ireturn, 1), (20, .aload_n 0, 1), (21, .getfield 22, 3), (24, .iload_n 1, 1), (25, .iaload, 1), (26, .iconst (-1), 1), (27, .if_icmp .ne 9, 3), (30, .iload_n 1, 1), (31, .iconst 1, 1), (32, .iadd, 1), (33, .goto 6, 3), (36, .iload_n 1, 1), (37, .iconst 2, 1), (38, .iadd, 1), (39, .istore_n 2, 1), (40, .aload_n 0, 1), (41, .getfield 28, 3), (44, .iload_n 2, 1), (45, .aload_n 0, 1), (46, .getfield 34, 3), (49, .invokestatic 103, 3), (52, .iaload, 1), (53, .ireturn, 1)]
set_option maxRecDepth 100000 in
theorem jD54 : ∀ q ∈ jP54, decode prog_2_method_13_code q.1 = .ok q.2 := by decide +kernel
/-- LinkedCores$Coder.write([BI)V -/
def jP55 : List (Nat × Instr × Nat) := [(0, .aload_n 0, 1), (1, .getfield 28, 3), (4, .iload_n 2, 1), (5, .iconst 1, 1), (6, .iadd, 1), (7, .iaload, 1), (8, .iconst 1, 1), (9, .isub, 1), (10, .istore_n 3, 1), (11, .aload_n 0, 1), (12, .getfield 15, 3), (15, .iload_n 2, 1), (16, .iaload, 1), (17, .istore 4, 2), (19, .aload_n 1, 1), (20, .iload_n 3, 1), (21, .aload_n 0, 1), (22, .getfield 9, 3), (25, .iload_n 2, 1), (26, .baload, 1), (27, .iload 4, 2), (29, .invokestatic 119, 3), (32, .iload 4, 2), (34, .ifCond .ge 12, 3), (37, .iload 4, 2), (39, .iconst (-1), 1), (40, .ixor, 1), (41, .iconst 4, 1), (42, .iushr, 1), (43, .goto 7, 3), (46, .iload 4, 2), (48, .iconst 4, 1), (49, .iushr, 1), (50, .istore 5, 2), (52, .iload_n 3, 1), (53, .iconst 1, 1), (54, .isub, 1), (55, .istore 6, 2), (57, .iload 6, 2), (59, .aload_n 0, 1), (60, .getfield 28, 3), (63, .iload_n 2, 1), (64, .iaload, 1), (65, .if_icmp .lt 42, 3), (68, .aload_n 1, 1), (69, .iload 6, 2), (71, .iload 4, 2), (73, .ifCond .ge 16, 3), (76, .iload 6, 2), (78, .iload_n 3, 1), (79, .iconst 1, 1), (80, .isub, 1), (81, .if_icmp .ne 8, 3), (84, .bipush 6, 2), (86, .goto 4, 3), (89, .iconst 2, 1), (90, .iload 5, 2), (92, .invokestatic 119, 3), (95, .iload 5, 2), (97, .iconst 4, 1), (98, .iushr, 1), (99, .istore 5, 2), (101, .iinc 6 (-1), 3), (104, .goto (-47), 3), (107, .return_, 1)]
set_option maxRecDepth 100000 in
theorem jD55 : ∀ q ∈ jP55, decode prog_2_method_14_code q.1 = .ok q.2 := by decide +kernel
/-- LinkedCores$Coder.store([BIII)V -/
def jP56 : List (Nat × Instr × Nat) := [(0, .iload_n 1, 1), (1, .ifCond .lt 21, 3), (4, .iload_n 1, 1), (5, .aload_n 0, 1), (6, .arraylength, 1), (7, .if_icmp .ge 15, 3), (10, .aload_n 0, 1), (11, .iload_n 1, 1), (12, .iload_n 2, 1), (13, .iconst 4, 1), (14, .ishl, 1), (15, .iload_n 3, 1), (16, .bipush 15, 2), (18, .iand, 1), (19, .ior, 1), (20, .i2b, 1), (21, .bastore, 1), (22, .return_, 1)]
set_option maxRecDepth 100000 in
theorem jD56 : ∀ q ∈ jP56, decode prog_2_method_15_code q.1 = .ok q.2 := by decide +kernel
/-- LinkedCores$Coder.isPlain(LLinkedCores$Node;)Z -/
def jP57 : List (Nat × Instr × Nat) := [(0, .aload_n 0, 1), (1, .ifnull 32, 3), (4, .aload_n 0, 1), (5, .getfield 123, 3), (8, .bipush 20, 2), (10, .if_icmp .eq 19, 3), (13, .aload_n 0, 1), (14, .getfield 123, 3), (17, .bipush 21, 2), (19, .if_icmp .ne 14, 3), (22, .aload_n 0, 1), (23, .getfield 128, 3), (26, .ifnonnull 7, 3), (29, .iconst 1, 1), (30, .goto 4, 3), (33, .iconst 0, 1), (34, .ireturn, 1)]
set_option maxRecDepth 100000 in
theorem jD57 : ∀ q ∈ jP57, decode prog_2_method_16_code q.1 = .ok q.2 := by decide +kernel
/-- LinkedCores$Coder.keepsRight(LLinkedCores$Node;)Z -/
def jP58 : List (Nat × Instr × Nat) := [(0, .aload_n 0, 1), (1, .getfield 123, 3), (4, .bipush 22, 2), (6, .if_icmp .ne 25, 3), (9, .aload_n 0, 1), (10, .getfield 131, 3), (13, .bipush 26, 2), (15, .if_icmp .eq 16, 3), (18, .aload_n 0, 1), (19, .getfield 131, 3), (22, .bipush 27, 2), (24, .if_icmp .eq 7, 3), (27, .iconst 1, 1), (28, .goto 4, 3), (31, .iconst 0, 1), (32, .istore_n 1, 1), (33, .iload_n 1, 1), (34, .ifCond .eq 17, 3), (37, .aload_n 0, 1), (38, .getfield 136, 3), (41, .invokestatic 139, 3), (44, .ifCond .ne 7, 3), (47, .iconst 1, 1), (48, .goto 4, 3), (51, .iconst 0, 1), (52, .ireturn, 1)]
set_option maxRecDepth 100000 in
theorem jD58 : ∀ q ∈ jP58, decode prog_2_method_17_code q.1 = .ok q.2 := by decide +kernel
/-- LinkedCores$Coder.value(LLinkedCores$Node;)V -/
def jP59 : List (Nat × Instr × Nat) := [(0, .aload_n 1, 1), (1, .ifnull 10, 3), (4, .aload_n 0, 1), (5, .getfield 41, 3), (8, .ifCond .eq 4, 3), (11, .return_, 1), (12, .aload_n 1, 1), (13, .getfield 123, 3), (16, .tableswitch 101 20 24 #[36, 48, 101, 56, 83], 36), (52, .aload_n 0, 1), (53, .iconst 4, 1), (54, .aload_n 1, 1), (55, .getfield 131, 3), (58, .invokevirtual 73, 3), (61, .goto 61, 3), (64, .aload_n 0, 1), (65, .aload_n 1, 1), (66, .invokevirtual 143, 3), (69, .goto 53, 3), (72, .aload_n 0, 1), (73, .aload_n 1, 1), (74, .getfield 128, 3), (77, .invokevirtual 146, 3), (80, .aload_n 0, 1), (81, .iconst 4, 1), (82, .iconst 0, 1), (83, .invokevirtual 73, 3), (86, .aload_n 0, 1), (87, .iconst 0, 1), (88, .invokevirtual 85, 3), (91, .aload_n 0, 1), (92, .iconst 2, 1), (93, .invokevirtual 85, 3), (96, .goto 26, 3), (99, .aload_n 0, 1), (100, .aload_n 1, 1), (101, .getfield 128, 3), (104, .invokevirtual 146, 3), (107, .aload_n 0, 1), (108, .bipush 12, 2), (110, .iconst 0, 1), (111, .invokevirtual 73, 3), (114, .goto 8, 3), (117, .aload_n 0, 1), (118, .aload_n 1, 1), (119, .invokevirtual 148, 3), (122, .return_, 1)]
set_option maxRecDepth 100000 in
theorem jD59 : ∀ q ∈ jP59, decode prog_2_method_18_code q.1 = .ok q.2 := by decide +kernel
/-- LinkedCores$Coder.valueOfPart(LLinkedCores$Node;)V -/
def jP60 : List (Nat × Instr × Nat) := [(0, .aload_n 1, 1), (1, .getfield 151, 3), (4, .astore_n 2, 1), (5, .aload_n 2, 1), (6, .ifnonnull 4, 3), (9, .return_, 1), (10, .aload_n 2, 1), (11, .getfield 155, 3), (14, .iconst 4, 1), (15, .if_icmp .ne 15, 3), (18, .aload_n 0, 1), (19, .iconst 4, 1), (20, .aload_n 2, 1), (21, .getfield 156, 3), (24, .invokevirtual 73, 3), (27, .goto 43, 3), (30, .aload_n 2, 1), (31, .getfield 155, 3), (34, .iconst 2, 1), (35, .if_icmp .eq 10, 3), (38, .aload_n 1, 1), (39, .getfield 128, 3), (42, .ifnull 17, 3), (45, .aload_n 0, 1), (46, .aload_n 1, 1), (47, .invokevirtual 157, 3), (50, .aload_n 0, 1), (51, .iconst 3, 1), (52, .iconst 0, 1), (53, .invokevirtual 73, 3), (56, .goto 14, 3), (59, .aload_n 0, 1), (60, .bipush 7, 2), (62, .aload_n 0, 1), (63, .aload_n 2, 1), (64, .invokevirtual 160, 3), (67, .invokevirtual 73, 3), (70, .return_, 1)]
set_option maxRecDepth 100000 in
theorem jD60 : ∀ q ∈ jP60, decode prog_2_method_19_code q.1 = .ok q.2 := by decide +kernel
/-- LinkedCores$Coder.wordOf(LLinkedCores$Name;)I -/
def jP61 : List (Nat × Instr × Nat) := [(0, .aload_n 1, 1), (1, .getfield 164, 3), (4, .aload_n 1, 1), (5, .getfield 165, 3), (8, .iadd, 1), (9, .aload_n 0, 1), (10, .getfield 45, 3), (13, .isub, 1), (14, .ireturn, 1)]
set_option maxRecDepth 100000 in
theorem jD61 : ∀ q ∈ jP61, decode prog_2_method_20_code q.1 = .ok q.2 := by decide +kernel
/-- LinkedCores$Coder.address(LLinkedCores$Node;)V -/
def jP62_0 : List (Nat × Instr × Nat) := [(0, .aload_n 1, 1), (1, .ifnull 17, 3), (4, .aload_n 1, 1), (5, .getfield 151, 3), (8, .ifnull 10, 3), (11, .aload_n 0, 1), (12, .getfield 41, 3), (15, .ifCond .eq 4, 3), (18, .return_, 1), (19, .aload_n 1, 1), (20, .getfield 151, 3), (23, .astore_n 2, 1), (24, .aload_n 1, 1), (25, .getfield 128, 3), (28, .ifnull 26, 3), (31, .aload_n 0, 1), (32, .aload_n 1, 1), (33, .getfield 128, 3), (36, .invokevirtual 146, 3), (39, .aload_n 0, 1), (40, .iconst 4, 1), (41, .aload_n 2, 1), (42, .getfield 70, 3), (45, .invokevirtual 73, 3), (48, .aload_n 0, 1), (49, .bipush 12, 2), (51, .invokevirtual 85, 3), (54, .aload_n 2, 1), (55, .getfield 155, 3), (58, .iconst 2, 1), (59, .if_icmp .eq 21, 3), (62, .aload_n 2, 1), (63, .getfield 155, 3), (66, .bipush 6, 2), (68, .if_icmp .eq 12, 3), (71, .aload_n 2, 1), (72, .getfield 155, 3), (75, .bipush 8, 2), (77, .if_icmp .ne 7, 3), (80, .iconst 1, 1), (81, .goto 4, 3), (84, .iconst 0, 1), (85, .istore_n 3, 1), (86, .aload_n 2, 1), (87, .getfield 155, 3), (90, .bipush 10, 2), (92, .if_icmp .ne 15, 3), (95, .aload_n 0, 1), (96, .iconst 4, 1), (97, .aload_n 2, 1), (98, .getfield 165, 3), (101, .invokevirtual 73, 3), (104, .goto 22, 3), (107, .aload_n 0, 1), (108, .iload_n 3, 1), (109, .ifCond .eq 8, 3), (112, .bipush 7, 2)]
set_option maxRecDepth 100000 in
theorem jD62_0 : ∀ q ∈ jP62_0, decode prog_2_method_21_code q.1 = .ok q.2 := by decide +kernel
def jP62_1 : List (Nat × Instr × Nat) := [(114, .goto 4, 3), (117, .iconst 1, 1), (118, .aload_n 0, 1), (119, .aload_n 2, 1), (120, .invokevirtual 160, 3), (123, .invokevirtual 73, 3), (126, .aload_n 1, 1), (127, .getfield 128, 3), (130, .ifnull 9, 3), (133, .aload_n 0, 1), (134, .bipush 11, 2), (136, .invokevirtual 85, 3), (139, .return_, 1)]
set_option maxRecDepth 100000 in
theorem jD62_1 : ∀ q ∈ jP62_1, decode prog_2_method_21_code q.1 = .ok q.2 := by decide +kernel
def jP62 : List (Nat × Instr × Nat) := jP62_0 ++ (jP62_1)
theorem jD62 : ∀ q ∈ jP62, decode prog_2_method_21_code q.1 = .ok q.2 := jApp jD62_0 jD62_1
/-- LinkedCores$Coder.binary(LLinkedCores$Node;)V -/
def jP63 : List (Nat × Instr × Nat) := [(0, .aload_n 1, 1), (1, .getfield 131, 3), (4, .bipush 26, 2), (6, .if_icmp .eq 12, 3), (9, .aload_n 1, 1), (10, .getfield 131, 3), (13, .bipush 27, 2), (15, .if_icmp .ne 11, 3), (18, .aload_n 0, 1), (19, .aload_n 1, 1), (20, .invokevirtual 168, 3), (23, .goto 81, 3), (26, .aload_n 1, 1), (27, .invokestatic 171, 3), (30, .ifCond .eq 50, 3), (33, .aload_n 0, 1), (34, .aload_n 1, 1), (35, .getfield 136, 3), (38, .invokevirtual 146, 3), (41, .aload_n 0, 1), (42, .bipush 13, 2), (44, .aload_n 1, 1), (45, .getfield 174, 3), (48, .invokevirtual 73, 3), (51, .aload_n 0, 1), (52, .aload_n 1, 1), (53, .getfield 128, 3), (56, .invokevirtual 146, 3), (59, .aload_n 0, 1), (60, .bipush 7, 2), (62, .aload_n 1, 1), (63, .getfield 174, 3), (66, .invokevirtual 73, 3), (69, .aload_n 0, 1), (70, .aload_n 1, 1), (71, .getfield 131, 3), (74, .invokevirtual 175, 3), (77, .goto 27, 3), (80, .aload_n 0, 1), (81, .aload_n 1, 1), (82, .getfield 128, 3), (85, .invokevirtual 146, 3), (88, .aload_n 0, 1), (89, .aload_n 1, 1), (90, .getfield 136, 3), (93, .invokevirtual 146, 3), (96, .aload_n 0, 1), (97, .aload_n 1, 1), (98, .getfield 131, 3), (101, .invokevirtual 175, 3), (104, .return_, 1)]
set_option maxRecDepth 100000 in
theorem jD63 : ∀ q ∈ jP63, decode prog_2_method_22_code q.1 = .ok q.2 := by decide +kernel
