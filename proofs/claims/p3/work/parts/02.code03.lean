/-- LinkedCores$Parser.operand()LLinkedCores$Node; -/
def jP202 : List (Nat × Instr × Nat) := [(0, .aload_n 0, 1), (1, .getfield 15, 3), (4, .getfield 36, 3), (7, .lookupswitch 102 #[(2, 67), (3, 49), (23, 61), (24, 96), (54, 79)], 49), (56, .aload_n 0, 1), (57, .aload_n 0, 1), (58, .getfield 15, 3), (61, .getfield 110, 3), (64, .invokevirtual 331, 3), (67, .areturn, 1), (68, .aload_n 0, 1), (69, .iconst 1, 1), (70, .invokevirtual 331, 3), (73, .areturn, 1), (74, .aload_n 0, 1), (75, .aload_n 0, 1), (76, .invokevirtual 292, 3), (79, .invokevirtual 285, 3), (82, .invokevirtual 295, 3), (85, .areturn, 1), (86, .aload_n 0, 1), (87, .invokevirtual 306, 3), (90, .aload_n 0, 1), (91, .invokevirtual 226, 3), (94, .astore_n 1, 1), (95, .aload_n 0, 1), (96, .bipush 55, 2), (98, .invokevirtual 315, 3), (101, .aload_n 1, 1), (102, .areturn, 1), (103, .aload_n 0, 1), (104, .iconst 0, 1), (105, .invokevirtual 331, 3), (108, .areturn, 1), (109, .aload_n 0, 1), (110, .invokevirtual 59, 3), (113, .aconst_null, 1), (114, .areturn, 1)]
set_option maxRecDepth 100000 in
theorem jD202 : ∀ q ∈ jP202, decode prog_9_method_44_code q.1 = .ok q.2 := by decide +kernel
/-- LinkedCores$Parser.numeral(I)LLinkedCores$Node; -/
def jP203 : List (Nat × Instr × Nat) := [(0, .new 194, 3), (3, .dup, 1), (4, .bipush 20, 2), (6, .aload_n 0, 1), (7, .getfield 15, 3), (10, .getfield 87, 3), (13, .invokespecial 196, 3), (16, .astore_n 2, 1), (17, .aload_n 2, 1), (18, .iload_n 1, 1), (19, .putfield 254, 3), (22, .aload_n 0, 1), (23, .getfield 15, 3), (26, .invokevirtual 104, 3), (29, .aload_n 2, 1), (30, .areturn, 1)]
set_option maxRecDepth 100000 in
theorem jD203 : ∀ q ∈ jP203, decode prog_9_method_45_code q.1 = .ok q.2 := by decide +kernel
/-- LinkedCores$Program.<init>()V -/
def jP204 : List (Nat × Instr × Nat) := [(0, .aload_n 0, 1), (1, .invokespecial 3, 3), (4, .aload_n 0, 1), (5, .iconst (-1), 1), (6, .putfield 9, 3), (9, .aload_n 0, 1), (10, .iconst (-1), 1), (11, .putfield 15, 3), (14, .aload_n 0, 1), (15, .bipush 6, 2), (17, .anewarray 18, 3), (20, .putfield 20, 3), (23, .aload_n 0, 1), (24, .bipush 24, 2), (26, .anewarray 24, 3), (29, .putfield 26, 3), (32, .aload_n 0, 1), (33, .bipush 12, 2), (35, .anewarray 30, 3), (38, .putfield 32, 3), (41, .return_, 1)]
set_option maxRecDepth 100000 in
theorem jD204 : ∀ q ∈ jP204, decode prog_10_method_1_code q.1 = .ok q.2 := by decide +kernel
/-- LinkedCores$Program.blame(III)V -/
def jP205 : List (Nat × Instr × Nat) := [(0, .aload_n 0, 1), (1, .iload_n 1, 1), (2, .putfield 36, 3), (5, .aload_n 0, 1), (6, .iload_n 2, 1), (7, .putfield 9, 3), (10, .aload_n 0, 1), (11, .iload_n 3, 1), (12, .putfield 15, 3), (15, .return_, 1)]
set_option maxRecDepth 100000 in
theorem jD205 : ∀ q ∈ jP205, decode prog_10_method_2_code q.1 = .ok q.2 := by decide +kernel
/-- LinkedCores$Scanner.<init>([BI)V -/
def jP206 : List (Nat × Instr × Nat) := [(0, .aload_n 0, 1), (1, .invokespecial 3, 3), (4, .aload_n 0, 1), (5, .iconst (-1), 1), (6, .putfield 9, 3), (9, .iconst 0, 1), (10, .iload_n 2, 1), (11, .invokestatic 15, 3), (14, .iconst 1, 1), (15, .iadd, 1), (16, .istore_n 3, 1), (17, .aload_n 0, 1), (18, .aload_n 1, 1), (19, .putfield 21, 3), (22, .aload_n 0, 1), (23, .iload_n 2, 1), (24, .putfield 25, 3), (27, .aload_n 0, 1), (28, .iload_n 3, 1), (29, .newarray .byte, 2), (31, .putfield 28, 3), (34, .aload_n 0, 1), (35, .iload_n 3, 1), (36, .newarray .int, 2), (38, .putfield 31, 3), (41, .aload_n 0, 1), (42, .iload_n 3, 1), (43, .newarray .long, 2), (45, .putfield 35, 3), (48, .aload_n 0, 1), (49, .iload_n 3, 1), (50, .newarray .int, 2), (52, .putfield 39, 3), (55, .aload_n 0, 1), (56, .iload_n 3, 1), (57, .newarray .byte, 2), (59, .putfield 42, 3), (62, .return_, 1)]
set_option maxRecDepth 100000 in
theorem jD206 : ∀ q ∈ jP206, decode prog_11_method_1_code q.1 = .ok q.2 := by decide +kernel
/-- LinkedCores$Scanner.next()V -/
def jP207 : List (Nat × Instr × Nat) := [(0, .aload_n 0, 1), (1, .getfield 45, 3), (4, .ifCond .eq 17, 3), (7, .aload_n 0, 1), (8, .dup, 1), (9, .getfield 9, 3), (12, .iconst 1, 1), (13, .iadd, 1), (14, .putfield 9, 3), (17, .aload_n 0, 1), (18, .invokevirtual 48, 3), (21, .return_, 1)]
set_option maxRecDepth 100000 in
theorem jD207 : ∀ q ∈ jP207, decode prog_11_method_2_code q.1 = .ok q.2 := by decide +kernel
/-- LinkedCores$Scanner.nextLine()V -/
def jP208 : List (Nat × Instr × Nat) := [(0, .aload_n 0, 1), (1, .dup, 1), (2, .getfield 9, 3), (5, .iconst 1, 1), (6, .iadd, 1), (7, .putfield 9, 3), (10, .aload_n 0, 1), (11, .invokevirtual 48, 3), (14, .return_, 1)]
set_option maxRecDepth 100000 in
theorem jD208 : ∀ q ∈ jP208, decode prog_11_method_3_code q.1 = .ok q.2 := by decide +kernel
/-- LinkedCores$Scanner.load()V -/
def jP209_0 : List (Nat × Instr × Nat) := [(0, .aload_n 0, 1), (1, .aload_n 0, 1), (2, .getfield 9, 3), (5, .ifCond .lt 26, 3), (8, .aload_n 0, 1), (9, .getfield 9, 3), (12, .aload_n 0, 1), (13, .getfield 51, 3), (16, .if_icmp .ge 15, 3), (19, .aload_n 0, 1), (20, .getfield 9, 3), (23, .aload_n 0, 1), (24, .getfield 28, 3), (27, .arraylength, 1), (28, .if_icmp .lt 7, 3), (31, .iconst 1, 1), (32, .goto 4, 3), (35, .iconst 0, 1), (36, .putfield 54, 3), (39, .aload_n 0, 1), (40, .getfield 54, 3), (43, .ifCond .eq 14, 3), (46, .aload_n 0, 1), (47, .iconst (-1), 1), (48, .putfield 58, 3), (51, .aload_n 0, 1), (52, .iconst 0, 1), (53, .putfield 45, 3), (56, .return_, 1), (57, .aload_n 0, 1), (58, .aload_n 0, 1), (59, .getfield 28, 3), (62, .aload_n 0, 1), (63, .getfield 9, 3), (66, .baload, 1), (67, .putfield 45, 3), (70, .aload_n 0, 1), (71, .aload_n 0, 1), (72, .getfield 31, 3), (75, .aload_n 0, 1), (76, .getfield 9, 3), (79, .iaload, 1), (80, .putfield 61, 3), (83, .aload_n 0, 1), (84, .aload_n 0, 1), (85, .getfield 35, 3), (88, .aload_n 0, 1), (89, .getfield 9, 3), (92, .laload, 1), (93, .l2i, 1), (94, .putfield 64, 3), (97, .aload_n 0, 1), (98, .aload_n 0, 1), (99, .getfield 35, 3), (102, .aload_n 0, 1), (103, .getfield 9, 3), (106, .laload, 1), (107, .putfield 67, 3)]
set_option maxRecDepth 100000 in
theorem jD209_0 : ∀ q ∈ jP209_0, decode prog_11_method_4_code q.1 = .ok q.2 := by decide +kernel
def jP209_1 : List (Nat × Instr × Nat) := [(110, .aload_n 0, 1), (111, .aload_n 0, 1), (112, .getfield 39, 3), (115, .aload_n 0, 1), (116, .getfield 9, 3), (119, .iaload, 1), (120, .putfield 71, 3), (123, .aload_n 0, 1), (124, .aload_n 0, 1), (125, .getfield 42, 3), (128, .aload_n 0, 1), (129, .getfield 9, 3), (132, .baload, 1), (133, .putfield 58, 3), (136, .return_, 1)]
set_option maxRecDepth 100000 in
theorem jD209_1 : ∀ q ∈ jP209_1, decode prog_11_method_4_code q.1 = .ok q.2 := by decide +kernel
def jP209 : List (Nat × Instr × Nat) := jP209_0 ++ (jP209_1)
theorem jD209 : ∀ q ∈ jP209, decode prog_11_method_4_code q.1 = .ok q.2 := jApp jD209_0 jD209_1
/-- LinkedCores$Scanner.isOperator()Z -/
def jP210 : List (Nat × Instr × Nat) := [(0, .aload_n 0, 1), (1, .getfield 45, 3), (4, .bipush 41, 2), (6, .if_icmp .lt 12, 3), (9, .aload_n 0, 1), (10, .getfield 45, 3), (13, .bipush 47, 2), (15, .if_icmp .le 39, 3), (18, .aload_n 0, 1), (19, .getfield 45, 3), (22, .bipush 58, 2), (24, .if_icmp .lt 12, 3), (27, .aload_n 0, 1), (28, .getfield 45, 3), (31, .bipush 65, 2), (33, .if_icmp .le 21, 3), (36, .aload_n 0, 1), (37, .getfield 45, 3), (40, .bipush 26, 2), (42, .if_icmp .eq 12, 3), (45, .aload_n 0, 1), (46, .getfield 45, 3), (49, .bipush 27, 2), (51, .if_icmp .ne 7, 3), (54, .iconst 1, 1), (55, .goto 4, 3), (58, .iconst 0, 1), (59, .ireturn, 1)]
set_option maxRecDepth 100000 in
theorem jD210 : ∀ q ∈ jP210, decode prog_11_method_5_code q.1 = .ok q.2 := by decide +kernel
/-- LinkedCores$Scanner.scan()V -/
def jP211 : List (Nat × Instr × Nat) := [(0, .iconst 0, 1), (1, .istore_n 1, 1), (2, .iconst 0, 1), (3, .istore_n 2, 1), (4, .iload_n 2, 1), (5, .aload_n 0, 1), (6, .getfield 25, 3), (9, .if_icmp .gt 28, 3), (12, .iload_n 1, 1), (13, .aload_n 0, 1), (14, .getfield 25, 3), (17, .if_icmp .gt 20, 3), (20, .aload_n 0, 1), (21, .iload_n 2, 1), (22, .putfield 71, 3), (25, .aload_n 0, 1), (26, .iload_n 1, 1), (27, .invokevirtual 74, 3), (30, .istore_n 1, 1), (31, .iinc 2 1, 3), (34, .goto (-30), 3), (37, .return_, 1)]
set_option maxRecDepth 100000 in
theorem jD211 : ∀ q ∈ jP211, decode prog_11_method_6_code q.1 = .ok q.2 := by decide +kernel
/-- LinkedCores$Scanner.scanLine(I)I -/
def jP212_0 : List (Nat × Instr × Nat) := [(0, .aload_n 0, 1), (1, .iload_n 1, 1), (2, .putfield 78, 3), (5, .aload_n 0, 1), (6, .iload_n 1, 1), (7, .putfield 81, 3), (10, .aload_n 0, 1), (11, .getfield 81, 3), (14, .aload_n 0, 1), (15, .getfield 25, 3), (18, .if_icmp .ge 57, 3), (21, .aload_n 0, 1), (22, .aload_n 0, 1), (23, .getfield 81, 3), (26, .invokevirtual 84, 3), (29, .bipush 10, 2), (31, .if_icmp .eq 44, 3), (34, .aload_n 0, 1), (35, .aload_n 0, 1), (36, .getfield 81, 3), (39, .invokevirtual 84, 3), (42, .bipush 45, 2), (44, .if_icmp .ne 18, 3), (47, .aload_n 0, 1), (48, .aload_n 0, 1), (49, .getfield 81, 3), (52, .iconst 1, 1), (53, .iadd, 1), (54, .invokevirtual 84, 3), (57, .bipush 45, 2), (59, .if_icmp .eq 16, 3), (62, .aload_n 0, 1), (63, .dup, 1), (64, .getfield 81, 3)]
set_option maxRecDepth 100000 in
theorem jD212_0 : ∀ q ∈ jP212_0, decode prog_11_method_7_code q.1 = .ok q.2 := by decide +kernel
def jP212_1 : List (Nat × Instr × Nat) := [(67, .iconst 1, 1), (68, .iadd, 1), (69, .putfield 81, 3), (72, .goto (-62), 3), (75, .aload_n 0, 1), (76, .getfield 81, 3), (79, .istore_n 2, 1), (80, .iload_n 2, 1), (81, .aload_n 0, 1), (82, .getfield 25, 3), (85, .if_icmp .ge 19, 3), (88, .aload_n 0, 1), (89, .iload_n 2, 1), (90, .invokevirtual 84, 3), (93, .bipush 10, 2), (95, .if_icmp .eq 9, 3), (98, .iinc 2 1, 3), (101, .goto (-21), 3), (104, .aload_n 0, 1), (105, .aload_n 0, 1), (106, .getfield 78, 3), (109, .putfield 87, 3), (112, .aload_n 0, 1), (113, .invokevirtual 90, 3), (116, .aload_n 0, 1), (117, .getfield 87, 3), (120, .aload_n 0, 1), (121, .getfield 78, 3), (124, .isub, 1), (125, .istore_n 3, 1), (126, .aload_n 0, 1), (127, .getfield 87, 3), (130, .aload_n 0, 1), (131, .getfield 81, 3)]
set_option maxRecDepth 100000 in
theorem jD212_1 : ∀ q ∈ jP212_1, decode prog_11_method_7_code q.1 = .ok q.2 := by decide +kernel
def jP212_2 : List (Nat × Instr × Nat) := [(134, .if_icmp .ge 7, 3), (137, .iconst 1, 1), (138, .goto 4, 3), (141, .iconst 0, 1), (142, .istore 4, 2), (144, .aload_n 0, 1), (145, .iload_n 3, 1), (146, .iconst 2, 1), (147, .irem, 1), (148, .ifCond .ne 17, 3), (151, .iload_n 3, 1), (152, .iconst 2, 1), (153, .idiv, 1), (154, .bipush 15, 2), (156, .if_icmp .gt 9, 3), (159, .iload_n 3, 1), (160, .iconst 2, 1), (161, .idiv, 1), (162, .goto 5, 3), (165, .bipush (-2), 2), (167, .putfield 58, 3), (170, .aload_n 0, 1), (171, .getfield 78, 3), (174, .istore 5, 2), (176, .iload 5, 2), (178, .aload_n 0, 1), (179, .getfield 81, 3), (182, .if_icmp .ge 28, 3), (185, .aload_n 0, 1), (186, .getfield 87, 3), (189, .aload_n 0, 1), (190, .getfield 81, 3), (193, .if_icmp .ge 17, 3), (196, .aload_n 0, 1)]
set_option maxRecDepth 100000 in
theorem jD212_2 : ∀ q ∈ jP212_2, decode prog_11_method_7_code q.1 = .ok q.2 := by decide +kernel
def jP212_3 : List (Nat × Instr × Nat) := [(197, .invokevirtual 93, 3), (200, .aload_n 0, 1), (201, .invokevirtual 90, 3), (204, .iinc 5 1, 3), (207, .goto (-31), 3), (210, .iload 4, 2), (212, .ifCond .eq 13, 3), (215, .aload_n 0, 1), (216, .iconst 0, 1), (217, .aload_n 0, 1), (218, .getfield 81, 3), (221, .lconst 0, 1), (222, .invokevirtual 96, 3), (225, .iload_n 2, 1), (226, .iconst 1, 1), (227, .iadd, 1), (228, .ireturn, 1)]
set_option maxRecDepth 100000 in
theorem jD212_3 : ∀ q ∈ jP212_3, decode prog_11_method_7_code q.1 = .ok q.2 := by decide +kernel
def jP212 : List (Nat × Instr × Nat) := jP212_0 ++ (jP212_1 ++ (jP212_2 ++ (jP212_3)))
theorem jD212 : ∀ q ∈ jP212, decode prog_11_method_7_code q.1 = .ok q.2 := jApp jD212_0 (jApp jD212_1 (jApp jD212_2 jD212_3))
/-- LinkedCores$Scanner.sign(I)I -/
def jP213 : List (Nat × Instr × Nat) := [(0, .iload_n 1, 1), (1, .ifCond .lt 29, 3), (4, .iload_n 1, 1), (5, .aload_n 0, 1), (6, .getfield 25, 3), (9, .if_icmp .ge 21, 3), (12, .iload_n 1, 1), (13, .aload_n 0, 1), (14, .getfield 21, 3), (17, .arraylength, 1), (18, .if_icmp .ge 12, 3), (21, .aload_n 0, 1), (22, .getfield 21, 3), (25, .iload_n 1, 1), (26, .baload, 1), (27, .goto 4, 3), (30, .iconst 0, 1), (31, .ireturn, 1)]
set_option maxRecDepth 100000 in
theorem jD213 : ∀ q ∈ jP213, decode prog_11_method_8_code q.1 = .ok q.2 := by decide +kernel
/-- LinkedCores$Scanner.skipBlanks()V -/
def jP214 : List (Nat × Instr × Nat) := [(0, .aload_n 0, 1), (1, .getfield 87, 3), (4, .aload_n 0, 1), (5, .getfield 81, 3), (8, .if_icmp .ge 29, 3), (11, .aload_n 0, 1), (12, .aload_n 0, 1), (13, .getfield 87, 3), (16, .invokevirtual 84, 3), (19, .bipush 32, 2), (21, .if_icmp .ne 16, 3), (24, .aload_n 0, 1), (25, .dup, 1), (26, .getfield 87, 3), (29, .iconst 1, 1), (30, .iadd, 1), (31, .putfield 87, 3), (34, .goto (-34), 3), (37, .return_, 1)]
set_option maxRecDepth 100000 in
theorem jD214 : ∀ q ∈ jP214, decode prog_11_method_9_code q.1 = .ok q.2 := by decide +kernel
/-- LinkedCores$Scanner.add(IIJ)V -/
def jP215 : List (Nat × Instr × Nat) := [(0, .aload_n 0, 1), (1, .getfield 51, 3), (4, .aload_n 0, 1), (5, .getfield 28, 3), (8, .arraylength, 1), (9, .if_icmp .ge 76, 3), (12, .aload_n 0, 1), (13, .getfield 28, 3), (16, .aload_n 0, 1), (17, .getfield 51, 3), (20, .iload_n 1, 1), (21, .i2b, 1), (22, .bastore, 1), (23, .aload_n 0, 1), (24, .getfield 31, 3), (27, .aload_n 0, 1), (28, .getfield 51, 3), (31, .iload_n 2, 1), (32, .aload_n 0, 1), (33, .getfield 78, 3), (36, .isub, 1), (37, .iastore, 1), (38, .aload_n 0, 1), (39, .getfield 35, 3), (42, .aload_n 0, 1), (43, .getfield 51, 3), (46, .lload_n 3, 1), (47, .lastore, 1), (48, .aload_n 0, 1), (49, .getfield 39, 3), (52, .aload_n 0, 1), (53, .getfield 51, 3), (56, .aload_n 0, 1), (57, .getfield 71, 3), (60, .iastore, 1), (61, .aload_n 0, 1), (62, .getfield 42, 3), (65, .aload_n 0, 1), (66, .getfield 51, 3), (69, .aload_n 0, 1), (70, .getfield 58, 3), (73, .i2b, 1), (74, .bastore, 1), (75, .aload_n 0, 1), (76, .dup, 1), (77, .getfield 51, 3), (80, .iconst 1, 1), (81, .iadd, 1), (82, .putfield 51, 3), (85, .return_, 1)]
set_option maxRecDepth 100000 in
theorem jD215 : ∀ q ∈ jP215, decode prog_11_method_10_code q.1 = .ok q.2 := by decide +kernel
/-- LinkedCores$Scanner.scanToken()V -/
def jP216 : List (Nat × Instr × Nat) := [(0, .aload_n 0, 1), (1, .aload_n 0, 1), (2, .getfield 87, 3), (5, .invokevirtual 84, 3), (8, .istore_n 1, 1), (9, .iload_n 1, 1), (10, .bipush 97, 2), (12, .if_icmp .lt 16, 3), (15, .iload_n 1, 1), (16, .bipush 122, 2), (18, .if_icmp .gt 10, 3), (21, .aload_n 0, 1), (22, .invokevirtual 100, 3), (25, .goto 36, 3), (28, .iload_n 1, 1), (29, .invokestatic 103, 3), (32, .ifCond .eq 10, 3), (35, .aload_n 0, 1), (36, .invokevirtual 107, 3), (39, .goto 22, 3), (42, .iload_n 1, 1), (43, .invokestatic 110, 3), (46, .ifCond .eq 10, 3), (49, .aload_n 0, 1), (50, .invokevirtual 113, 3), (53, .goto 8, 3), (56, .aload_n 0, 1), (57, .iload_n 1, 1), (58, .invokevirtual 116, 3), (61, .return_, 1)]
set_option maxRecDepth 100000 in
theorem jD216 : ∀ q ∈ jP216, decode prog_11_method_11_code q.1 = .ok q.2 := by decide +kernel
/-- LinkedCores$Scanner.capital(I)Z -/
def jP217 : List (Nat × Instr × Nat) := [(0, .iload_n 0, 1), (1, .bipush 65, 2), (3, .if_icmp .lt 13, 3), (6, .iload_n 0, 1), (7, .bipush 90, 2), (9, .if_icmp .gt 7, 3), (12, .iconst 1, 1), (13, .goto 4, 3), (16, .iconst 0, 1), (17, .ireturn, 1)]
set_option maxRecDepth 100000 in
theorem jD217 : ∀ q ∈ jP217, decode prog_11_method_12_code q.1 = .ok q.2 := by decide +kernel
/-- LinkedCores$Scanner.digit(I)Z -/
def jP218 : List (Nat × Instr × Nat) := [(0, .iload_n 0, 1), (1, .bipush 48, 2), (3, .if_icmp .lt 13, 3), (6, .iload_n 0, 1), (7, .bipush 57, 2), (9, .if_icmp .gt 7, 3), (12, .iconst 1, 1), (13, .goto 4, 3), (16, .iconst 0, 1), (17, .ireturn, 1)]
set_option maxRecDepth 100000 in
theorem jD218 : ∀ q ∈ jP218, decode prog_11_method_13_code q.1 = .ok q.2 := by decide +kernel
/-- LinkedCores$Scanner.scanName()V -/
def jP219 : List (Nat × Instr × Nat) := [(0, .aload_n 0, 1), (1, .getfield 87, 3), (4, .istore_n 1, 1), (5, .lconst 0, 1), (6, .lstore_n 2, 1), (7, .aload_n 0, 1), (8, .getfield 87, 3), (11, .aload_n 0, 1), (12, .getfield 81, 3), (15, .if_icmp .ge 55, 3), (18, .ldc 120, 2), (20, .aload_n 0, 1), (21, .aload_n 0, 1), (22, .getfield 87, 3), (25, .invokevirtual 84, 3), (28, .i2c, 1), (29, .invokevirtual 122, 3), (32, .ifCond .le 38, 3), (35, .lload_n 2, 1), (36, .ldc2_w 127, 3), (39, .lmul, 1), (40, .ldc 120, 2), (42, .aload_n 0, 1), (43, .aload_n 0, 1), (44, .getfield 87, 3), (47, .invokevirtual 84, 3), (50, .i2c, 1), (51, .invokevirtual 122, 3), (54, .i2l, 1), (55, .ladd, 1), (56, .lstore_n 2, 1), (57, .aload_n 0, 1), (58, .dup, 1), (59, .getfield 87, 3), (62, .iconst 1, 1), (63, .iadd, 1), (64, .putfield 87, 3), (67, .goto (-60), 3), (70, .aload_n 0, 1), (71, .aload_n 0, 1), (72, .getfield 87, 3), (75, .iload_n 1, 1), (76, .isub, 1), (77, .bipush 10, 2), (79, .if_icmp .le 7, 3), (82, .iconst 1, 1), (83, .goto 4, 3), (86, .iconst 2, 1), (87, .iload_n 1, 1), (88, .lload_n 2, 1), (89, .invokevirtual 96, 3), (92, .return_, 1)]
set_option maxRecDepth 100000 in
theorem jD219 : ∀ q ∈ jP219, decode prog_11_method_14_code q.1 = .ok q.2 := by decide +kernel
/-- LinkedCores$Scanner.keyOf(Ljava/lang/String;)J -/
def jP220 : List (Nat × Instr × Nat) := [(0, .lconst 0, 1), (1, .lstore_n 1, 1), (2, .iconst 0, 1), (3, .istore_n 3, 1), (4, .iload_n 3, 1), (5, .aload_n 0, 1), (6, .invokevirtual 129, 3), (9, .if_icmp .ge 27, 3), (12, .lload_n 1, 1), (13, .ldc2_w 127, 3), (16, .lmul, 1), (17, .ldc 120, 2), (19, .aload_n 0, 1), (20, .iload_n 3, 1), (21, .invokevirtual 132, 3), (24, .invokevirtual 122, 3), (27, .i2l, 1), (28, .ladd, 1), (29, .lstore_n 1, 1), (30, .iinc 3 1, 3), (33, .goto (-29), 3), (36, .lload_n 1, 1), (37, .lreturn, 1)]
set_option maxRecDepth 100000 in
theorem jD220 : ∀ q ∈ jP220, decode prog_11_method_15_code q.1 = .ok q.2 := by decide +kernel
/-- LinkedCores$Scanner.scanKeyword()V -/
def jP221_0 : List (Nat × Instr × Nat) := [(0, .aload_n 0, 1), (1, .getfield 87, 3), (4, .istore_n 1, 1), (5, .aload_n 0, 1), (6, .getfield 87, 3), (9, .aload_n 0, 1), (10, .getfield 81, 3), (13, .if_icmp .ge 30, 3), (16, .aload_n 0, 1), (17, .aload_n 0, 1), (18, .getfield 87, 3), (21, .invokevirtual 84, 3), (24, .invokestatic 103, 3), (27, .ifCond .eq 16, 3), (30, .aload_n 0, 1), (31, .dup, 1), (32, .getfield 87, 3), (35, .iconst 1, 1), (36, .iadd, 1), (37, .putfield 87, 3), (40, .goto (-35), 3), (43, .iconst 1, 1), (44, .istore_n 2, 1), (45, .iconst 0, 1), (46, .istore_n 3, 1), (47, .bipush 10, 2), (49, .istore 4, 2), (51, .iconst 0, 1), (52, .istore 5, 2), (54, .iload 5, 2), (56, .ldc 136, 2), (58, .invokevirtual 129, 3), (61, .if_icmp .ge 56, 3), (64, .ldc 136, 2), (66, .iload 5, 2), (68, .invokevirtual 132, 3), (71, .bipush 32, 2), (73, .if_icmp .ne 38, 3), (76, .iload 5, 2), (78, .iload_n 3, 1), (79, .isub, 1), (80, .aload_n 0, 1), (81, .getfield 87, 3), (84, .iload_n 1, 1), (85, .isub, 1), (86, .if_icmp .ne 17, 3), (89, .aload_n 0, 1), (90, .iload_n 3, 1), (91, .iload 5, 2), (93, .iload_n 1, 1), (94, .invokevirtual 138, 3), (97, .ifCond .eq 6, 3), (100, .iload 4, 2), (102, .istore_n 2, 1), (103, .iinc 4 1, 3), (106, .iload 5, 2), (108, .iconst 1, 1), (109, .iadd, 1), (110, .istore_n 3, 1), (111, .iinc 5 1, 3), (114, .goto (-60), 3), (117, .aload_n 0, 1), (118, .iload_n 2, 1), (119, .iload_n 1, 1)]
set_option maxRecDepth 100000 in
theorem jD221_0 : ∀ q ∈ jP221_0, decode prog_11_method_16_code q.1 = .ok q.2 := by decide +kernel
def jP221_1 : List (Nat × Instr × Nat) := [(120, .lconst 0, 1), (121, .invokevirtual 96, 3), (124, .return_, 1)]
set_option maxRecDepth 100000 in
theorem jD221_1 : ∀ q ∈ jP221_1, decode prog_11_method_16_code q.1 = .ok q.2 := by decide +kernel
def jP221 : List (Nat × Instr × Nat) := jP221_0 ++ (jP221_1)
theorem jD221 : ∀ q ∈ jP221, decode prog_11_method_16_code q.1 = .ok q.2 := jApp jD221_0 jD221_1
/-- LinkedCores$Scanner.isHere(III)Z -/
def jP222 : List (Nat × Instr × Nat) := [(0, .iload_n 1, 1), (1, .istore 4, 2), (3, .iload 4, 2), (5, .iload_n 2, 1), (6, .if_icmp .ge 41, 3), (9, .iload 4, 2), (11, .ldc 136, 2), (13, .invokevirtual 129, 3), (16, .if_icmp .ge 31, 3), (19, .ldc 136, 2), (21, .iload 4, 2), (23, .invokevirtual 132, 3), (26, .aload_n 0, 1), (27, .iload_n 3, 1), (28, .iload 4, 2), (30, .iadd, 1), (31, .iload_n 1, 1), (32, .isub, 1), (33, .invokevirtual 84, 3), (36, .if_icmp .eq 5, 3), (39, .iconst 0, 1), (40, .ireturn, 1), (41, .iinc 4 1, 3), (44, .goto (-41), 3), (47, .iconst 1, 1), (48, .ireturn, 1)]
set_option maxRecDepth 100000 in
theorem jD222 : ∀ q ∈ jP222, decode prog_11_method_17_code q.1 = .ok q.2 := by decide +kernel
/-- LinkedCores$Scanner.scanNumber()V -/
def jP223 : List (Nat × Instr × Nat) := [(0, .aload_n 0, 1), (1, .getfield 87, 3), (4, .istore_n 1, 1), (5, .lconst 0, 1), (6, .lstore_n 2, 1), (7, .aload_n 0, 1), (8, .getfield 87, 3), (11, .aload_n 0, 1), (12, .getfield 81, 3), (15, .if_icmp .ge 61, 3), (18, .aload_n 0, 1), (19, .aload_n 0, 1), (20, .getfield 87, 3), (23, .invokevirtual 84, 3), (26, .invokestatic 110, 3), (29, .ifCond .eq 47, 3), (32, .aload_n 0, 1), (33, .getfield 87, 3), (36, .iload_n 1, 1), (37, .isub, 1), (38, .bipush 10, 2), (40, .if_icmp .ge 23, 3), (43, .lload_n 2, 1), (44, .ldc2_w 142, 3), (47, .lmul, 1), (48, .aload_n 0, 1), (49, .aload_n 0, 1), (50, .getfield 87, 3), (53, .invokevirtual 84, 3), (56, .i2l, 1), (57, .ladd, 1), (58, .ldc2_w 144, 3), (61, .lsub, 1), (62, .lstore_n 2, 1), (63, .aload_n 0, 1), (64, .dup, 1), (65, .getfield 87, 3), (68, .iconst 1, 1), (69, .iadd, 1), (70, .putfield 87, 3), (73, .goto (-66), 3), (76, .aload_n 0, 1), (77, .aload_n 0, 1), (78, .getfield 87, 3), (81, .iload_n 1, 1), (82, .isub, 1), (83, .bipush 10, 2), (85, .if_icmp .gt 11, 3), (88, .lload_n 2, 1), (89, .ldc2_w 146, 3), (92, .lcmp, 1), (93, .ifCond .le 7, 3), (96, .iconst 1, 1), (97, .goto 4, 3), (100, .iconst 3, 1), (101, .iload_n 1, 1), (102, .lload_n 2, 1), (103, .invokevirtual 96, 3), (106, .return_, 1)]
set_option maxRecDepth 100000 in
theorem jD223 : ∀ q ∈ jP223, decode prog_11_method_18_code q.1 = .ok q.2 := by decide +kernel
/-- LinkedCores$Scanner.scanSign(I)V -/
def jP224_0 : List (Nat × Instr × Nat) := [(0, .aload_n 0, 1), (1, .getfield 87, 3), (4, .iconst 1, 1), (5, .iadd, 1), (6, .aload_n 0, 1), (7, .getfield 81, 3), (10, .if_icmp .ge 16, 3), (13, .aload_n 0, 1), (14, .aload_n 0, 1), (15, .getfield 87, 3), (18, .iconst 1, 1), (19, .iadd, 1), (20, .invokevirtual 84, 3), (23, .goto 4, 3), (26, .iconst 0, 1), (27, .istore_n 2, 1), (28, .iconst 0, 1), (29, .istore_n 3, 1), (30, .iload_n 3, 1), (31, .iconst 1, 1), (32, .iadd, 1), (33, .ldc 148, 2), (35, .invokevirtual 129, 3), (38, .if_icmp .ge 57, 3), (41, .ldc 148, 2), (43, .iload_n 3, 1), (44, .invokevirtual 132, 3), (47, .iload_n 1, 1), (48, .if_icmp .ne 41, 3), (51, .ldc 148, 2), (53, .iload_n 3, 1), (54, .iconst 1, 1), (55, .iadd, 1), (56, .invokevirtual 132, 3), (59, .iload_n 2, 1), (60, .if_icmp .ne 29, 3), (63, .aload_n 0, 1), (64, .bipush 40, 2), (66, .iload_n 3, 1), (67, .iconst 2, 1), (68, .idiv, 1), (69, .iadd, 1), (70, .aload_n 0, 1), (71, .getfield 87, 3), (74, .lconst 0, 1), (75, .invokevirtual 96, 3), (78, .aload_n 0, 1), (79, .dup, 1), (80, .getfield 87, 3), (83, .iconst 2, 1), (84, .iadd, 1), (85, .putfield 87, 3), (88, .return_, 1), (89, .iinc 3 2, 3), (92, .goto (-62), 3), (95, .ldc 150, 2), (97, .iload_n 1, 1), (98, .i2c, 1), (99, .invokevirtual 122, 3)]
set_option maxRecDepth 100000 in
theorem jD224_0 : ∀ q ∈ jP224_0, decode prog_11_method_19_code q.1 = .ok q.2 := by decide +kernel
def jP224_1 : List (Nat × Instr × Nat) := [(102, .istore_n 3, 1), (103, .aload_n 0, 1), (104, .iload_n 3, 1), (105, .ifCond .ge 7, 3), (108, .iconst 1, 1), (109, .goto 7, 3), (112, .bipush 50, 2), (114, .iload_n 3, 1), (115, .iadd, 1), (116, .aload_n 0, 1), (117, .getfield 87, 3), (120, .lconst 0, 1), (121, .invokevirtual 96, 3), (124, .aload_n 0, 1), (125, .dup, 1), (126, .getfield 87, 3), (129, .iconst 1, 1), (130, .iadd, 1), (131, .putfield 87, 3), (134, .return_, 1)]
set_option maxRecDepth 100000 in
theorem jD224_1 : ∀ q ∈ jP224_1, decode prog_11_method_19_code q.1 = .ok q.2 := by decide +kernel
def jP224 : List (Nat × Instr × Nat) := jP224_0 ++ (jP224_1)
theorem jD224 : ∀ q ∈ jP224, decode prog_11_method_19_code q.1 = .ok q.2 := jApp jD224_0 jD224_1
/-- LinkedCores$Uses.<init>(LLinkedCores$Program;)V -/
def jP225 : List (Nat × Instr × Nat) := [(0, .aload_n 0, 1), (1, .invokespecial 3, 3), (4, .aload_n 0, 1), (5, .iconst (-1), 1), (6, .putfield 9, 3), (9, .aload_n 0, 1), (10, .aload_n 1, 1), (11, .putfield 15, 3), (14, .aload_n 0, 1), (15, .aload_n 1, 1), (16, .getfield 19, 3), (19, .iconst 0, 1), (20, .invokestatic 24, 3), (23, .anewarray 30, 3), (26, .putfield 32, 3), (29, .return_, 1)]
set_option maxRecDepth 100000 in
theorem jD225 : ∀ q ∈ jP225, decode prog_12_method_1_code q.1 = .ok q.2 := by decide +kernel
/-- LinkedCores$Uses.judge()V -/
def jP226 : List (Nat × Instr × Nat) := [(0, .aload_n 0, 1), (1, .iconst (-1), 1), (2, .putfield 36, 3), (5, .iconst 0, 1), (6, .istore_n 1, 1), (7, .iload_n 1, 1), (8, .aload_n 0, 1), (9, .getfield 15, 3), (12, .getfield 39, 3), (15, .if_icmp .ge 48, 3), (18, .iload_n 1, 1), (19, .aload_n 0, 1), (20, .getfield 15, 3), (23, .getfield 42, 3), (26, .arraylength, 1), (27, .if_icmp .ge 36, 3), (30, .aload_n 0, 1), (31, .getfield 15, 3), (34, .getfield 42, 3), (37, .iload_n 1, 1), (38, .aaload, 1), (39, .astore_n 2, 1), (40, .aload_n 0, 1), (41, .iconst 0, 1), (42, .putfield 46, 3), (45, .aload_n 2, 1), (46, .ifnull 11, 3), (49, .aload_n 0, 1), (50, .aload_n 2, 1), (51, .getfield 49, 3), (54, .invokevirtual 55, 3), (57, .iinc 1 1, 3), (60, .goto (-53), 3), (63, .iconst 0, 1), (64, .istore_n 1, 1), (65, .iload_n 1, 1), (66, .bipush 6, 2), (68, .if_icmp .ge 32, 3), (71, .aload_n 0, 1), (72, .iload_n 1, 1), (73, .putfield 36, 3), (76, .aload_n 0, 1), (77, .iconst 0, 1), (78, .putfield 46, 3), (81, .aload_n 0, 1), (82, .aload_n 0, 1), (83, .getfield 15, 3), (86, .getfield 59, 3), (89, .iload_n 1, 1), (90, .aaload, 1), (91, .invokevirtual 55, 3), (94, .iinc 1 1, 3), (97, .goto (-32), 3), (100, .aload_n 0, 1), (101, .getfield 9, 3), (104, .iconst (-1), 1), (105, .if_icmp .eq 16, 3), (108, .aload_n 0, 1), (109, .getfield 15, 3), (112, .iconst 5, 1), (113, .aload_n 0, 1), (114, .getfield 9, 3), (117, .iconst (-1), 1), (118, .invokevirtual 62, 3), (121, .return_, 1)]
set_option maxRecDepth 100000 in
theorem jD226 : ∀ q ∈ jP226, decode prog_12_method_2_code q.1 = .ok q.2 := by decide +kernel
/-- LinkedCores$Uses.blame(I)V -/
def jP227 : List (Nat × Instr × Nat) := [(0, .aload_n 0, 1), (1, .aload_n 0, 1), (2, .getfield 9, 3), (5, .iconst (-1), 1), (6, .if_icmp .ne 7, 3), (9, .iload_n 1, 1), (10, .goto 11, 3), (13, .aload_n 0, 1), (14, .getfield 9, 3), (17, .iload_n 1, 1), (18, .invokestatic 66, 3), (21, .putfield 9, 3), (24, .return_, 1)]
set_option maxRecDepth 100000 in
theorem jD227 : ∀ q ∈ jP227, decode prog_12_method_3_code q.1 = .ok q.2 := by decide +kernel
/-- LinkedCores$Uses.process(LLinkedCores$Node;)V -/
def jP228_0 : List (Nat × Instr × Nat) := [(0, .aload_n 1, 1), (1, .ifnonnull 4, 3), (4, .return_, 1), (5, .aload_n 1, 1), (6, .getfield 69, 3), (9, .tableswitch 174 2 13 #[63, 83, 103, 125, 149, 174, 133, 133, 133, 141, 174, 141], 63), (72, .aload_n 0, 1), (73, .aload_n 1, 1), (74, .getfield 72, 3), (77, .invokevirtual 75, 3), (80, .aload_n 0, 1), (81, .aload_n 1, 1), (82, .getfield 78, 3), (85, .iconst 2, 1), (86, .invokevirtual 81, 3), (89, .goto 118, 3), (92, .aload_n 0, 1), (93, .aload_n 1, 1), (94, .getfield 72, 3), (97, .invokevirtual 75, 3), (100, .aload_n 0, 1), (101, .aload_n 1, 1), (102, .getfield 78, 3), (105, .iconst 4, 1), (106, .invokevirtual 81, 3), (109, .goto 98, 3), (112, .aload_n 0, 1), (113, .aload_n 1, 1), (114, .getfield 78, 3), (117, .bipush 8, 2), (119, .invokevirtual 81, 3), (122, .aload_n 0, 1), (123, .aload_n 1, 1), (124, .getfield 72, 3), (127, .iconst 2, 1), (128, .invokevirtual 81, 3), (131, .goto 76, 3), (134, .aload_n 0, 1)]
set_option maxRecDepth 100000 in
theorem jD228_0 : ∀ q ∈ jP228_0, decode prog_12_method_4_code q.1 = .ok q.2 := by decide +kernel
def jP228_1 : List (Nat × Instr × Nat) := [(135, .aload_n 1, 1), (136, .invokevirtual 85, 3), (139, .goto 68, 3), (142, .aload_n 0, 1), (143, .aload_n 1, 1), (144, .invokevirtual 88, 3), (147, .goto 60, 3), (150, .aload_n 0, 1), (151, .aload_n 1, 1), (152, .invokevirtual 91, 3), (155, .goto 52, 3), (158, .aload_n 1, 1), (159, .getfield 78, 3), (162, .astore_n 2, 1), (163, .aload_n 2, 1), (164, .ifnull 16, 3), (167, .aload_n 0, 1), (168, .aload_n 2, 1), (169, .invokevirtual 55, 3), (172, .aload_n 2, 1), (173, .getfield 94, 3), (176, .astore_n 2, 1), (177, .goto (-14), 3), (180, .goto 27, 3), (183, .aload_n 0, 1), (184, .aload_n 1, 1), (185, .getfield 78, 3), (188, .invokevirtual 75, 3), (191, .aload_n 0, 1), (192, .aload_n 1, 1), (193, .getfield 72, 3), (196, .invokevirtual 75, 3), (199, .aload_n 0, 1), (200, .aload_n 1, 1), (201, .getfield 97, 3), (204, .invokevirtual 55, 3), (207, .return_, 1)]
set_option maxRecDepth 100000 in
theorem jD228_1 : ∀ q ∈ jP228_1, decode prog_12_method_4_code q.1 = .ok q.2 := by decide +kernel
def jP228 : List (Nat × Instr × Nat) := jP228_0 ++ (jP228_1)
theorem jD228 : ∀ q ∈ jP228, decode prog_12_method_4_code q.1 = .ok q.2 := jApp jD228_0 jD228_1
/-- LinkedCores$Uses.choices(LLinkedCores$Node;)V -/
def jP229 : List (Nat × Instr × Nat) := [(0, .aload_n 1, 1), (1, .getfield 78, 3), (4, .astore_n 2, 1), (5, .aload_n 2, 1), (6, .ifnull 46, 3), (9, .aload_n 0, 1), (10, .aload_n 2, 1), (11, .getfield 78, 3), (14, .invokevirtual 75, 3), (17, .aload_n 0, 1), (18, .aload_n 2, 1), (19, .getfield 72, 3), (22, .bipush 8, 2), (24, .invokevirtual 81, 3), (27, .aload_n 0, 1), (28, .aload_n 2, 1), (29, .getfield 98, 3), (32, .iconst 2, 1), (33, .invokevirtual 81, 3), (36, .aload_n 0, 1), (37, .aload_n 2, 1), (38, .getfield 97, 3), (41, .invokevirtual 55, 3), (44, .aload_n 2, 1), (45, .getfield 94, 3), (48, .astore_n 2, 1), (49, .goto (-44), 3), (52, .return_, 1)]
set_option maxRecDepth 100000 in
theorem jD229 : ∀ q ∈ jP229, decode prog_12_method_5_code q.1 = .ok q.2 := by decide +kernel
/-- LinkedCores$Uses.read(LLinkedCores$Node;)V -/
def jP230 : List (Nat × Instr × Nat) := [(0, .aload_n 1, 1), (1, .ifnonnull 4, 3), (4, .return_, 1), (5, .aload_n 1, 1), (6, .getfield 69, 3), (9, .bipush 21, 2), (11, .if_icmp .ne 10, 3), (14, .aload_n 0, 1), (15, .aload_n 1, 1), (16, .iconst 1, 1), (17, .invokevirtual 81, 3), (20, .return_, 1), (21, .aload_n 0, 1), (22, .aload_n 1, 1), (23, .getfield 78, 3), (26, .invokevirtual 75, 3), (29, .aload_n 0, 1), (30, .aload_n 1, 1), (31, .getfield 72, 3), (34, .invokevirtual 75, 3), (37, .return_, 1)]
set_option maxRecDepth 100000 in
theorem jD230 : ∀ q ∈ jP230, decode prog_12_method_6_code q.1 = .ok q.2 := by decide +kernel
/-- LinkedCores$Uses.use(LLinkedCores$Node;I)V -/
def jP231 : List (Nat × Instr × Nat) := [(0, .aload_n 1, 1), (1, .ifnull 10, 3), (4, .aload_n 1, 1), (5, .getfield 101, 3), (8, .ifnonnull 4, 3), (11, .return_, 1), (12, .aload_n 0, 1), (13, .aload_n 1, 1), (14, .getfield 78, 3), (17, .invokevirtual 75, 3), (20, .aload_n 1, 1), (21, .iload_n 2, 1), (22, .putfield 105, 3), (25, .aload_n 1, 1), (26, .getfield 101, 3), (29, .dup, 1), (30, .getfield 108, 3), (33, .iload_n 2, 1), (34, .ior, 1), (35, .putfield 108, 3), (38, .aload_n 1, 1), (39, .invokestatic 109, 3), (42, .aload_n 1, 1), (43, .getfield 101, 3), (46, .getfield 112, 3), (49, .bipush 10, 2), (51, .if_icmp .ne 30, 3), (54, .iload_n 2, 1), (55, .ifCond .eq 26, 3), (58, .aload_n 0, 1), (59, .aload_n 1, 1), (60, .getfield 101, 3), (63, .getfield 113, 3), (66, .iload_n 2, 1), (67, .invokevirtual 116, 3), (70, .ifCond .ne 11, 3), (73, .aload_n 0, 1), (74, .aload_n 1, 1), (75, .getfield 120, 3), (78, .invokevirtual 123, 3), (81, .aload_n 0, 1), (82, .getfield 46, 3), (85, .aload_n 0, 1), (86, .getfield 32, 3), (89, .arraylength, 1), (90, .if_icmp .ge 34, 3), (93, .aload_n 1, 1), (94, .getfield 101, 3), (97, .getfield 112, 3), (100, .iconst 4, 1), (101, .if_icmp .eq 23, 3), (104, .aload_n 0, 1), (105, .getfield 32, 3), (108, .aload_n 0, 1), (109, .getfield 46, 3), (112, .aload_n 1, 1), (113, .aastore, 1), (114, .aload_n 0, 1), (115, .dup, 1), (116, .getfield 46, 3), (119, .iconst 1, 1), (120, .iadd, 1), (121, .putfield 46, 3), (124, .return_, 1)]
set_option maxRecDepth 100000 in
theorem jD231 : ∀ q ∈ jP231, decode prog_12_method_7_code q.1 = .ok q.2 := by decide +kernel
/-- LinkedCores$Uses.findElement(LLinkedCores$Node;)V -/
def jP232_0 : List (Nat × Instr × Nat) := [(0, .aload_n 0, 1), (1, .getfield 78, 3), (4, .astore_n 1, 1), (5, .aload_n 1, 1), (6, .ifnonnull 30, 3), (9, .aload_n 0, 1), (10, .aload_n 0, 1), (11, .getfield 101, 3), (14, .ifnull 17, 3), (17, .aload_n 0, 1), (18, .getfield 101, 3), (21, .invokevirtual 126, 3), (24, .ifCond .eq 7, 3), (27, .iconst 1, 1), (28, .goto 4, 3), (31, .iconst 0, 1), (32, .putfield 130, 3), (35, .return_, 1), (36, .aload_n 1, 1), (37, .astore_n 2, 1), (38, .aload_n 1, 1), (39, .getfield 69, 3), (42, .bipush 22, 2), (44, .if_icmp .ne 25, 3), (47, .aload_n 1, 1), (48, .getfield 134, 3), (51, .bipush 61, 2), (53, .if_icmp .eq 12, 3), (56, .aload_n 1, 1), (57, .getfield 134, 3), (60, .bipush 62, 2), (62, .if_icmp .ne 7, 3), (65, .iconst 1, 1), (66, .goto 4, 3), (69, .iconst 0, 1), (70, .istore_n 3, 1), (71, .iload_n 3, 1), (72, .ifCond .eq 58, 3), (75, .aload_n 1, 1), (76, .getfield 72, 3)]
set_option maxRecDepth 100000 in
theorem jD232_0 : ∀ q ∈ jP232_0, decode prog_12_method_8_code q.1 = .ok q.2 := by decide +kernel
def jP232_1 : List (Nat × Instr × Nat) := [(79, .ifnull 51, 3), (82, .aload_n 1, 1), (83, .getfield 72, 3), (86, .getfield 69, 3), (89, .bipush 20, 2), (91, .if_icmp .ne 39, 3), (94, .aload_n 1, 1), (95, .getfield 78, 3), (98, .astore_n 2, 1), (99, .aload_n 0, 1), (100, .aload_n 1, 1), (101, .getfield 134, 3), (104, .bipush 61, 2), (106, .if_icmp .ne 13, 3), (109, .aload_n 1, 1), (110, .getfield 72, 3), (113, .getfield 134, 3), (116, .goto 11, 3), (119, .aload_n 1, 1), (120, .getfield 72, 3), (123, .getfield 134, 3), (126, .ineg, 1), (127, .putfield 139, 3), (130, .aload_n 2, 1), (131, .ifnull 28, 3), (134, .aload_n 2, 1), (135, .getfield 69, 3), (138, .bipush 20, 2), (140, .if_icmp .ne 19, 3), (143, .aload_n 0, 1), (144, .dup, 1), (145, .getfield 139, 3), (148, .aload_n 2, 1), (149, .getfield 134, 3), (152, .iadd, 1), (153, .putfield 139, 3), (156, .goto 41, 3), (159, .aload_n 2, 1), (160, .ifnull 32, 3), (163, .aload_n 2, 1)]
set_option maxRecDepth 100000 in
theorem jD232_1 : ∀ q ∈ jP232_1, decode prog_12_method_8_code q.1 = .ok q.2 := by decide +kernel
def jP232_2 : List (Nat × Instr × Nat) := [(164, .getfield 101, 3), (167, .ifnull 25, 3), (170, .aload_n 2, 1), (171, .getfield 101, 3), (174, .getfield 112, 3), (177, .iconst 4, 1), (178, .if_icmp .ne 14, 3), (181, .aload_n 0, 1), (182, .aload_n 2, 1), (183, .getfield 101, 3), (186, .putfield 142, 3), (189, .goto 8, 3), (192, .aload_n 0, 1), (193, .iconst 1, 1), (194, .putfield 130, 3), (197, .return_, 1)]
set_option maxRecDepth 100000 in
theorem jD232_2 : ∀ q ∈ jP232_2, decode prog_12_method_8_code q.1 = .ok q.2 := by decide +kernel
def jP232 : List (Nat × Instr × Nat) := jP232_0 ++ (jP232_1 ++ (jP232_2))
theorem jD232 : ∀ q ∈ jP232, decode prog_12_method_8_code q.1 = .ok q.2 := jApp jD232_0 (jApp jD232_1 jD232_2)
/-- LinkedCores$Uses.mayUse(II)Z -/
def jP233_0 : List (Nat × Instr × Nat) := [(0, .iload_n 2, 1), (1, .iconst 4, 1), (2, .iand, 1), (3, .ifCond .eq 7, 3), (6, .iconst 1, 1), (7, .goto 4, 3), (10, .iconst 0, 1), (11, .istore_n 3, 1), (12, .iload_n 2, 1), (13, .bipush 8, 2), (15, .iand, 1), (16, .ifCond .eq 7, 3), (19, .iconst 1, 1), (20, .goto 4, 3), (23, .iconst 0, 1), (24, .istore 4, 2), (26, .aload_n 0, 1), (27, .getfield 36, 3), (30, .iconst (-1), 1), (31, .if_icmp .ne 5, 3), (34, .iconst 0, 1), (35, .ireturn, 1), (36, .iload_n 1, 1), (37, .bipush 12, 2), (39, .if_icmp .eq 9, 3), (42, .iload_n 1, 1), (43, .bipush 13, 2), (45, .if_icmp .ne 34, 3), (48, .aload_n 0, 1), (49, .getfield 36, 3), (52, .ifCond .ne 25, 3), (55, .iload_n 1, 1), (56, .bipush 12, 2), (58, .if_icmp .ne 11, 3), (61, .iload 4, 2), (63, .ifCond .eq 10, 3), (66, .goto 11, 3), (69, .iload_n 3, 1), (70, .ifCond .ne 7, 3), (73, .iconst 1, 1), (74, .goto 4, 3), (77, .iconst 0, 1), (78, .ireturn, 1), (79, .iload_n 1, 1), (80, .ifCond .lt 27, 3), (83, .iload_n 1, 1), (84, .aload_n 0, 1), (85, .getfield 15, 3), (88, .getfield 145, 3), (91, .arraylength, 1), (92, .if_icmp .ge 15, 3)]
set_option maxRecDepth 100000 in
theorem jD233_0 : ∀ q ∈ jP233_0, decode prog_12_method_9_code q.1 = .ok q.2 := by decide +kernel
def jP233_1 : List (Nat × Instr × Nat) := [(95, .aload_n 0, 1), (96, .getfield 15, 3), (99, .getfield 145, 3), (102, .iload_n 1, 1), (103, .aaload, 1), (104, .goto 4, 3), (107, .aconst_null, 1), (108, .astore 5, 2), (110, .aload 5, 2), (112, .ifnull 40, 3), (115, .iload_n 3, 1), (116, .ifCond .eq 15, 3), (119, .aload 5, 2), (121, .getfield 149, 3), (124, .aload_n 0, 1), (125, .getfield 36, 3), (128, .if_icmp .ne 24, 3), (131, .iload 4, 2), (133, .ifCond .eq 15, 3), (136, .aload 5, 2), (138, .getfield 154, 3), (141, .aload_n 0, 1), (142, .getfield 36, 3), (145, .if_icmp .ne 7, 3), (148, .iconst 1, 1), (149, .goto 4, 3), (152, .iconst 0, 1), (153, .ireturn, 1)]
set_option maxRecDepth 100000 in
theorem jD233_1 : ∀ q ∈ jP233_1, decode prog_12_method_9_code q.1 = .ok q.2 := by decide +kernel
def jP233 : List (Nat × Instr × Nat) := jP233_0 ++ (jP233_1)
theorem jD233 : ∀ q ∈ jP233, decode prog_12_method_9_code q.1 = .ok q.2 := jApp jD233_0 jD233_1
/-- LinkedCores$Uses.arguments(LLinkedCores$Node;)V -/
def jP234 : List (Nat × Instr × Nat) := [(0, .aload_n 1, 1), (1, .getfield 101, 3), (4, .ifnonnull 4, 3), (7, .return_, 1), (8, .aload_n 1, 1), (9, .getfield 101, 3), (12, .getfield 157, 3), (15, .astore_n 2, 1), (16, .aload_n 1, 1), (17, .getfield 78, 3), (20, .astore_n 3, 1), (21, .aload_n 3, 1), (22, .ifnull 52, 3), (25, .aload_n 2, 1), (26, .ifnull 48, 3), (29, .aload_n 2, 1), (30, .getfield 112, 3), (33, .iconst 1, 1), (34, .if_icmp .ne 11, 3), (37, .aload_n 0, 1), (38, .aload_n 3, 1), (39, .invokevirtual 75, 3), (42, .goto 19, 3), (45, .aload_n 0, 1), (46, .aload_n 3, 1), (47, .aload_n 2, 1), (48, .getfield 108, 3), (51, .invokevirtual 81, 3), (54, .aload_n 0, 1), (55, .aload_n 1, 1), (56, .aload_n 3, 1), (57, .aload_n 2, 1), (58, .invokevirtual 160, 3), (61, .aload_n 2, 1), (62, .getfield 164, 3), (65, .astore_n 2, 1), (66, .aload_n 3, 1), (67, .getfield 94, 3), (70, .astore_n 3, 1), (71, .goto (-50), 3), (74, .return_, 1)]
set_option maxRecDepth 100000 in
theorem jD234 : ∀ q ∈ jP234, decode prog_12_method_10_code q.1 = .ok q.2 := by decide +kernel
/-- LinkedCores$Uses.againstOthers(LLinkedCores$Node;LLinkedCores$Node;LLinkedCores$Name;)V -/
def jP235 : List (Nat × Instr × Nat) := [(0, .aload_n 1, 1), (1, .getfield 101, 3), (4, .getfield 157, 3), (7, .astore 4, 2), (9, .aload_n 1, 1), (10, .getfield 78, 3), (13, .astore 5, 2), (15, .aload 5, 2), (17, .ifnull 107, 3), (20, .aload 5, 2), (22, .aload_n 2, 1), (23, .if_acmp .eq 101, 3), (26, .aload 4, 2), (28, .ifnull 96, 3), (31, .aload 4, 2), (33, .getfield 112, 3), (36, .iconst 1, 1), (37, .if_icmp .eq 29, 3), (40, .aload 5, 2), (42, .getfield 101, 3), (45, .aload_n 2, 1), (46, .getfield 101, 3), (49, .if_acmp .ne 17, 3), (52, .aload 5, 2), (54, .aload_n 2, 1), (55, .aconst_null, 1), (56, .invokestatic 167, 3), (59, .ifCond .eq 7, 3), (62, .iconst 1, 1), (63, .goto 4, 3), (66, .iconst 0, 1), (67, .istore 6, 2), (69, .iload 6, 2), (71, .ifCond .eq 36, 3), (74, .aload_n 2, 1), (75, .getfield 101, 3), (78, .invokevirtual 171, 3), (81, .ifCond .ne 18, 3), (84, .aload 4, 2), (86, .getfield 108, 3), (89, .aload_n 3, 1), (90, .getfield 108, 3), (93, .invokestatic 174, 3), (96, .ifCond .eq 11, 3), (99, .aload_n 0, 1), (100, .aload_n 1, 1), (101, .getfield 120, 3), (104, .invokevirtual 123, 3), (107, .aload 4, 2), (109, .getfield 164, 3), (112, .astore 4, 2), (114, .aload 5, 2), (116, .getfield 94, 3), (119, .astore 5, 2), (121, .goto (-106), 3), (124, .return_, 1)]
set_option maxRecDepth 100000 in
theorem jD235 : ∀ q ∈ jP235, decode prog_12_method_11_code q.1 = .ok q.2 := by decide +kernel
/-- LinkedCores$Uses.clash(II)Z -/
def jP236 : List (Nat × Instr × Nat) := [(0, .iload_n 0, 1), (1, .iconst 2, 1), (2, .iand, 1), (3, .ifCond .eq 9, 3), (6, .iload_n 1, 1), (7, .iconst 3, 1), (8, .iand, 1), (9, .ifCond .ne 15, 3), (12, .iload_n 1, 1), (13, .iconst 2, 1), (14, .iand, 1), (15, .ifCond .eq 13, 3), (18, .iload_n 0, 1), (19, .iconst 3, 1), (20, .iand, 1), (21, .ifCond .eq 7, 3), (24, .iconst 1, 1), (25, .goto 4, 3), (28, .iconst 0, 1), (29, .istore_n 2, 1), (30, .iload_n 2, 1), (31, .ifCond .ne 12, 3), (34, .iload_n 0, 1), (35, .iload_n 1, 1), (36, .iand, 1), (37, .bipush 12, 2), (39, .iand, 1), (40, .ifCond .eq 7, 3), (43, .iconst 1, 1), (44, .goto 4, 3), (47, .iconst 0, 1), (48, .ireturn, 1)]
set_option maxRecDepth 100000 in
theorem jD236 : ∀ q ∈ jP236, decode prog_12_method_12_code q.1 = .ok q.2 := by decide +kernel
/-- LinkedCores$Uses.branches(LLinkedCores$Node;)V -/
def jP237 : List (Nat × Instr × Nat) := [(0, .aload_n 1, 1), (1, .getfield 78, 3), (4, .astore_n 2, 1), (5, .aload_n 2, 1), (6, .ifnull 32, 3), (9, .aload_n 2, 1), (10, .aload_n 0, 1), (11, .getfield 46, 3), (14, .putfield 177, 3), (17, .aload_n 0, 1), (18, .aload_n 2, 1), (19, .invokevirtual 55, 3), (22, .aload_n 2, 1), (23, .aload_n 0, 1), (24, .getfield 46, 3), (27, .putfield 178, 3), (30, .aload_n 2, 1), (31, .getfield 94, 3), (34, .astore_n 2, 1), (35, .goto (-30), 3), (38, .aload_n 1, 1), (39, .getfield 69, 3), (42, .bipush 10, 2), (44, .if_icmp .ne 32, 3), (47, .aload_n 1, 1), (48, .getfield 78, 3), (51, .ifnull 24, 3), (54, .aload_n 1, 1), (55, .getfield 134, 3), (58, .iconst 1, 1), (59, .if_icmp .le 16, 3), (62, .aload_n 0, 1), (63, .aload_n 1, 1), (64, .aload_n 1, 1), (65, .getfield 78, 3), (68, .aload_n 1, 1), (69, .getfield 78, 3), (72, .invokevirtual 179, 3), (75, .return_, 1), (76, .aload_n 1, 1), (77, .getfield 78, 3), (80, .astore_n 2, 1), (81, .aload_n 2, 1), (82, .ifnull 35, 3), (85, .aload_n 2, 1), (86, .getfield 94, 3), (89, .astore_n 3, 1), (90, .aload_n 3, 1), (91, .ifnull 18, 3), (94, .aload_n 0, 1), (95, .aload_n 1, 1), (96, .aload_n 2, 1), (97, .aload_n 3, 1), (98, .invokevirtual 179, 3), (101, .aload_n 3, 1), (102, .getfield 94, 3), (105, .astore_n 3, 1), (106, .goto (-16), 3), (109, .aload_n 2, 1), (110, .getfield 94, 3), (113, .astore_n 2, 1), (114, .goto (-33), 3), (117, .return_, 1)]
set_option maxRecDepth 100000 in
theorem jD237 : ∀ q ∈ jP237, decode prog_12_method_13_code q.1 = .ok q.2 := by decide +kernel
/-- LinkedCores$Uses.compare(LLinkedCores$Node;LLinkedCores$Node;LLinkedCores$Node;)V -/
def jP238_0 : List (Nat × Instr × Nat) := [(0, .aload_n 2, 1), (1, .getfield 177, 3), (4, .istore 4, 2), (6, .iload 4, 2), (8, .aload_n 2, 1), (9, .getfield 178, 3), (12, .if_icmp .ge 136, 3), (15, .iload 4, 2), (17, .aload_n 0, 1), (18, .getfield 32, 3), (21, .arraylength, 1), (22, .if_icmp .ge 126, 3), (25, .aload_n 0, 1), (26, .getfield 32, 3), (29, .iload 4, 2), (31, .aaload, 1), (32, .astore 5, 2), (34, .aload_n 2, 1), (35, .aload_n 3, 1), (36, .if_acmp .ne 8, 3), (39, .iload 4, 2), (41, .goto 7, 3), (44, .aload_n 3, 1), (45, .getfield 177, 3), (48, .istore 6, 2), (50, .iload 6, 2), (52, .aload_n 3, 1), (53, .getfield 178, 3), (56, .if_icmp .ge 86, 3), (59, .iload 6, 2), (61, .aload_n 0, 1), (62, .getfield 32, 3), (65, .arraylength, 1), (66, .if_icmp .ge 76, 3), (69, .aload_n 0, 1), (70, .getfield 32, 3), (73, .iload 6, 2), (75, .aaload, 1), (76, .astore 7, 2), (78, .aload 5, 2), (80, .ifnull 25, 3), (83, .aload 7, 2), (85, .ifnull 20, 3), (88, .aload 5, 2), (90, .getfield 101, 3), (93, .aload 7, 2), (95, .getfield 101, 3), (98, .if_acmp .ne 7, 3), (101, .iconst 1, 1), (102, .goto 4, 3), (105, .iconst 0, 1), (106, .istore 8, 2), (108, .iload 8, 2)]
set_option maxRecDepth 100000 in
theorem jD238_0 : ∀ q ∈ jP238_0, decode prog_12_method_14_code q.1 = .ok q.2 := by decide +kernel
def jP238_1 : List (Nat × Instr × Nat) := [(110, .ifCond .eq 26, 3), (113, .aload 5, 2), (115, .aload 7, 2), (117, .aload_n 1, 1), (118, .getfield 101, 3), (121, .invokestatic 183, 3), (124, .ifCond .eq 12, 3), (127, .aload_n 0, 1), (128, .aload_n 1, 1), (129, .getfield 120, 3), (132, .invokevirtual 123, 3), (135, .return_, 1), (136, .iinc 6 1, 3), (139, .goto (-89), 3), (142, .iinc 4 1, 3), (145, .goto (-139), 3), (148, .return_, 1)]
set_option maxRecDepth 100000 in
theorem jD238_1 : ∀ q ∈ jP238_1, decode prog_12_method_14_code q.1 = .ok q.2 := by decide +kernel
def jP238 : List (Nat × Instr × Nat) := jP238_0 ++ (jP238_1)
theorem jD238 : ∀ q ∈ jP238, decode prog_12_method_14_code q.1 = .ok q.2 := jApp jD238_0 jD238_1
/-- LinkedCores$Uses.against(LLinkedCores$Node;LLinkedCores$Node;LLinkedCores$Name;)Z -/
def jP239 : List (Nat × Instr × Nat) := [(0, .aload_n 2, 1), (1, .ifnull 21, 3), (4, .aload_n 0, 1), (5, .getfield 101, 3), (8, .getfield 186, 3), (11, .aload_n 2, 1), (12, .getfield 186, 3), (15, .if_icmp .le 7, 3), (18, .iconst 1, 1), (19, .goto 4, 3), (22, .iconst 0, 1), (23, .istore_n 3, 1), (24, .iload_n 3, 1), (25, .ifCond .ne 30, 3), (28, .aload_n 0, 1), (29, .getfield 105, 3), (32, .aload_n 1, 1), (33, .getfield 105, 3), (36, .invokestatic 174, 3), (39, .ifCond .eq 16, 3), (42, .aload_n 0, 1), (43, .aload_n 1, 1), (44, .aload_n 2, 1), (45, .invokestatic 167, 3), (48, .ifCond .eq 7, 3), (51, .iconst 1, 1), (52, .goto 4, 3), (55, .iconst 0, 1), (56, .ireturn, 1)]
set_option maxRecDepth 100000 in
theorem jD239 : ∀ q ∈ jP239, decode prog_12_method_15_code q.1 = .ok q.2 := by decide +kernel
/-- LinkedCores$Uses.meets(LLinkedCores$Node;LLinkedCores$Node;LLinkedCores$Name;)Z -/
def jP240_0 : List (Nat × Instr × Nat) := [(0, .aload_n 0, 1), (1, .getfield 130, 3), (4, .ifCond .ne 10, 3), (7, .aload_n 1, 1), (8, .getfield 130, 3), (11, .ifCond .eq 5, 3), (14, .iconst 1, 1), (15, .ireturn, 1), (16, .aload_n 0, 1), (17, .getfield 142, 3), (20, .ifnonnull 7, 3), (23, .iconst 1, 1), (24, .goto 10, 3), (27, .aload_n 0, 1), (28, .getfield 142, 3), (31, .getfield 189, 3), (34, .istore_n 3, 1), (35, .aload_n 1, 1), (36, .getfield 142, 3), (39, .ifnonnull 7, 3), (42, .iconst 1, 1), (43, .goto 10, 3), (46, .aload_n 1, 1), (47, .getfield 142, 3), (50, .getfield 189, 3), (53, .istore 4, 2), (55, .iconst 0, 1), (56, .istore 5, 2), (58, .iload 5, 2), (60, .iload_n 3, 1), (61, .if_icmp .ge 87, 3), (64, .iconst 0, 1), (65, .istore 6, 2), (67, .iload 6, 2), (69, .iload 4, 2), (71, .if_icmp .ge 71, 3), (74, .aload_n 0, 1), (75, .getfield 142, 3), (78, .aload_n 1, 1), (79, .getfield 142, 3), (82, .if_acmp .ne 25, 3), (85, .aload_n 0, 1), (86, .getfield 142, 3), (89, .ifnull 18, 3), (92, .aload_n 0, 1), (93, .getfield 142, 3), (96, .iload 5, 2), (98, .iload 6, 2), (100, .aload_n 2, 1), (101, .invokestatic 190, 3), (104, .ifCond .eq 7, 3), (107, .iconst 1, 1), (108, .goto 4, 3)]
set_option maxRecDepth 100000 in
theorem jD240_0 : ∀ q ∈ jP240_0, decode prog_12_method_16_code q.1 = .ok q.2 := by decide +kernel
def jP240_1 : List (Nat × Instr × Nat) := [(111, .iconst 0, 1), (112, .istore 7, 2), (114, .iload 7, 2), (116, .ifCond .eq 20, 3), (119, .aload_n 0, 1), (120, .iload 5, 2), (122, .invokestatic 194, 3), (125, .aload_n 1, 1), (126, .iload 6, 2), (128, .invokestatic 194, 3), (131, .if_icmp .ne 5, 3), (134, .iconst 1, 1), (135, .ireturn, 1), (136, .iinc 6 1, 3), (139, .goto (-72), 3), (142, .iinc 5 1, 3), (145, .goto (-87), 3), (148, .iconst 0, 1), (149, .ireturn, 1)]
set_option maxRecDepth 100000 in
theorem jD240_1 : ∀ q ∈ jP240_1, decode prog_12_method_16_code q.1 = .ok q.2 := by decide +kernel
def jP240 : List (Nat × Instr × Nat) := jP240_0 ++ (jP240_1)
theorem jD240 : ∀ q ∈ jP240, decode prog_12_method_16_code q.1 = .ok q.2 := jApp jD240_0 jD240_1
/-- LinkedCores$Uses.atOnce(LLinkedCores$Name;IILLinkedCores$Name;)Z -/
def jP241 : List (Nat × Instr × Nat) := [(0, .aload_n 3, 1), (1, .ifnull 14, 3), (4, .aload_n 0, 1), (5, .getfield 186, 3), (8, .aload_n 3, 1), (9, .getfield 186, 3), (12, .if_icmp .ge 14, 3), (15, .iload_n 1, 1), (16, .iload_n 2, 1), (17, .if_icmp .ne 7, 3), (20, .iconst 1, 1), (21, .goto 4, 3), (24, .iconst 0, 1), (25, .ireturn, 1), (26, .aload_n 0, 1), (27, .aload_n 3, 1), (28, .if_acmp .ne 8, 3), (31, .iload_n 1, 1), (32, .iload_n 2, 1), (33, .if_icmp .eq 7, 3), (36, .iconst 1, 1), (37, .goto 4, 3), (40, .iconst 0, 1), (41, .ireturn, 1)]
set_option maxRecDepth 100000 in
theorem jD241 : ∀ q ∈ jP241, decode prog_12_method_17_code q.1 = .ok q.2 := by decide +kernel
/-- LinkedCores$Uses.elementOf(LLinkedCores$Node;I)I -/
def jP242 : List (Nat × Instr × Nat) := [(0, .aload_n 0, 1), (1, .getfield 142, 3), (4, .ifnonnull 10, 3), (7, .aload_n 0, 1), (8, .getfield 139, 3), (11, .goto 17, 3), (14, .aload_n 0, 1), (15, .getfield 142, 3), (18, .getfield 198, 3), (21, .iload_n 1, 1), (22, .iadd, 1), (23, .aload_n 0, 1), (24, .getfield 139, 3), (27, .iadd, 1), (28, .ireturn, 1)]
set_option maxRecDepth 100000 in
theorem jD242 : ∀ q ∈ jP242, decode prog_12_method_18_code q.1 = .ok q.2 := by decide +kernel
/-- LinkedCoresModel.<init>()V -/
def jP243_0 : List (Nat × Instr × Nat) := [(0, .aload_n 0, 1), (1, .invokespecial 1, 3), (4, .aload_n 0, 1), (5, .sipush 3000, 3), (8, .newarray .int, 2), (10, .putfield 7, 3), (13, .aload_n 0, 1), (14, .sipush 3001, 3), (17, .newarray .int, 2), (19, .putfield 13, 3)]
set_option maxRecDepth 100000 in
theorem jD243_0 : ∀ q ∈ jP243_0, decode prog_14_method_1_code q.1 = .ok q.2 := by decide +kernel
def jP243_1 : List (Nat × Instr × Nat) := [(22, .aload_n 0, 1), (23, .sipush 3001, 3), (26, .newarray .int, 2), (28, .putfield 16, 3), (31, .aload_n 0, 1), (32, .sipush 3001, 3), (35, .newarray .int, 2), (37, .putfield 19, 3), (40, .aload_n 0, 1), (41, .sipush 3001, 3)]
set_option maxRecDepth 100000 in
theorem jD243_1 : ∀ q ∈ jP243_1, decode prog_14_method_1_code q.1 = .ok q.2 := by decide +kernel
def jP243_2 : List (Nat × Instr × Nat) := [(44, .newarray .int, 2), (46, .putfield 22, 3), (49, .aload_n 0, 1), (50, .sipush 3001, 3), (53, .newarray .int, 2), (55, .putfield 25, 3), (58, .aload_n 0, 1), (59, .iconst (-1), 1), (60, .putfield 28, 3), (63, .aload_n 0, 1)]
set_option maxRecDepth 100000 in
theorem jD243_2 : ∀ q ∈ jP243_2, decode prog_14_method_1_code q.1 = .ok q.2 := by decide +kernel
def jP243_3 : List (Nat × Instr × Nat) := [(64, .iconst (-1), 1), (65, .putfield 32, 3), (68, .aload_n 0, 1), (69, .sipush 260, 3), (72, .newarray .long, 2), (74, .putfield 35, 3), (77, .aload_n 0, 1), (78, .sipush 260, 3), (81, .newarray .int, 2), (83, .putfield 39, 3)]
set_option maxRecDepth 100000 in
theorem jD243_3 : ∀ q ∈ jP243_3, decode prog_14_method_1_code q.1 = .ok q.2 := by decide +kernel
def jP243_4 : List (Nat × Instr × Nat) := [(86, .aload_n 0, 1), (87, .sipush 260, 3), (90, .newarray .int, 2), (92, .putfield 42, 3), (95, .aload_n 0, 1), (96, .sipush 260, 3), (99, .newarray .int, 2), (101, .putfield 45, 3), (104, .aload_n 0, 1), (105, .sipush 260, 3)]
set_option maxRecDepth 100000 in
theorem jD243_4 : ∀ q ∈ jP243_4, decode prog_14_method_1_code q.1 = .ok q.2 := by decide +kernel
def jP243_5 : List (Nat × Instr × Nat) := [(108, .newarray .int, 2), (110, .putfield 48, 3), (113, .aload_n 0, 1), (114, .sipush 260, 3), (117, .newarray .int, 2), (119, .putfield 51, 3), (122, .aload_n 0, 1), (123, .sipush 260, 3), (126, .newarray .int, 2), (128, .putfield 54, 3)]
set_option maxRecDepth 100000 in
theorem jD243_5 : ∀ q ∈ jP243_5, decode prog_14_method_1_code q.1 = .ok q.2 := by decide +kernel
def jP243_6 : List (Nat × Instr × Nat) := [(131, .aload_n 0, 1), (132, .sipush 260, 3), (135, .newarray .int, 2), (137, .putfield 57, 3), (140, .aload_n 0, 1), (141, .sipush 260, 3), (144, .newarray .int, 2), (146, .putfield 60, 3), (149, .aload_n 0, 1), (150, .sipush 7000, 3)]
set_option maxRecDepth 100000 in
theorem jD243_6 : ∀ q ∈ jP243_6, decode prog_14_method_1_code q.1 = .ok q.2 := by decide +kernel
def jP243_7 : List (Nat × Instr × Nat) := [(153, .newarray .int, 2), (155, .putfield 63, 3), (158, .aload_n 0, 1), (159, .sipush 7000, 3), (162, .newarray .int, 2), (164, .putfield 66, 3), (167, .aload_n 0, 1), (168, .sipush 7000, 3), (171, .newarray .int, 2), (173, .putfield 69, 3)]
set_option maxRecDepth 100000 in
theorem jD243_7 : ∀ q ∈ jP243_7, decode prog_14_method_1_code q.1 = .ok q.2 := by decide +kernel
def jP243_8 : List (Nat × Instr × Nat) := [(176, .aload_n 0, 1), (177, .sipush 7000, 3), (180, .newarray .int, 2), (182, .putfield 72, 3), (185, .aload_n 0, 1), (186, .sipush 7000, 3), (189, .newarray .int, 2), (191, .putfield 75, 3), (194, .aload_n 0, 1), (195, .sipush 7000, 3)]
set_option maxRecDepth 100000 in
theorem jD243_8 : ∀ q ∈ jP243_8, decode prog_14_method_1_code q.1 = .ok q.2 := by decide +kernel
def jP243_9 : List (Nat × Instr × Nat) := [(198, .newarray .int, 2), (200, .putfield 78, 3), (203, .aload_n 0, 1), (204, .sipush 7000, 3), (207, .newarray .int, 2), (209, .putfield 81, 3), (212, .aload_n 0, 1), (213, .sipush 7000, 3), (216, .newarray .int, 2), (218, .putfield 84, 3)]
set_option maxRecDepth 100000 in
theorem jD243_9 : ∀ q ∈ jP243_9, decode prog_14_method_1_code q.1 = .ok q.2 := by decide +kernel
def jP243_10 : List (Nat × Instr × Nat) := [(221, .aload_n 0, 1), (222, .sipush 7000, 3), (225, .newarray .int, 2), (227, .putfield 87, 3), (230, .aload_n 0, 1), (231, .sipush 7000, 3), (234, .newarray .int, 2), (236, .putfield 90, 3), (239, .aload_n 0, 1), (240, .sipush 7000, 3)]
set_option maxRecDepth 100000 in
theorem jD243_10 : ∀ q ∈ jP243_10, decode prog_14_method_1_code q.1 = .ok q.2 := by decide +kernel
def jP243_11 : List (Nat × Instr × Nat) := [(243, .newarray .int, 2), (245, .putfield 93, 3), (248, .aload_n 0, 1), (249, .sipush 7000, 3), (252, .newarray .int, 2), (254, .putfield 96, 3), (257, .aload_n 0, 1), (258, .sipush 7000, 3), (261, .newarray .int, 2), (263, .putfield 99, 3)]
set_option maxRecDepth 100000 in
theorem jD243_11 : ∀ q ∈ jP243_11, decode prog_14_method_1_code q.1 = .ok q.2 := by decide +kernel
def jP243_12 : List (Nat × Instr × Nat) := [(266, .aload_n 0, 1), (267, .sipush 7000, 3), (270, .newarray .int, 2), (272, .putfield 102, 3), (275, .aload_n 0, 1), (276, .bipush 25, 2), (278, .newarray .int, 2), (280, .putfield 105, 3), (283, .aload_n 0, 1), (284, .bipush 25, 2)]
set_option maxRecDepth 100000 in
theorem jD243_12 : ∀ q ∈ jP243_12, decode prog_14_method_1_code q.1 = .ok q.2 := by decide +kernel
def jP243_13 : List (Nat × Instr × Nat) := [(286, .newarray .int, 2), (288, .putfield 108, 3), (291, .aload_n 0, 1), (292, .bipush 25, 2), (294, .newarray .int, 2), (296, .putfield 111, 3), (299, .aload_n 0, 1), (300, .bipush 25, 2), (302, .newarray .int, 2), (304, .putfield 114, 3)]
set_option maxRecDepth 100000 in
theorem jD243_13 : ∀ q ∈ jP243_13, decode prog_14_method_1_code q.1 = .ok q.2 := by decide +kernel
def jP243_14 : List (Nat × Instr × Nat) := [(307, .aload_n 0, 1), (308, .bipush 25, 2), (310, .newarray .int, 2), (312, .putfield 117, 3), (315, .aload_n 0, 1), (316, .bipush 13, 2), (318, .newarray .int, 2), (320, .putfield 120, 3), (323, .aload_n 0, 1), (324, .bipush 13, 2)]
set_option maxRecDepth 100000 in
theorem jD243_14 : ∀ q ∈ jP243_14, decode prog_14_method_1_code q.1 = .ok q.2 := by decide +kernel
def jP243_15 : List (Nat × Instr × Nat) := [(326, .newarray .int, 2), (328, .putfield 123, 3), (331, .aload_n 0, 1), (332, .bipush 6, 2), (334, .newarray .int, 2), (336, .putfield 126, 3), (339, .aload_n 0, 1), (340, .bipush 6, 2), (342, .newarray .int, 2), (344, .putfield 129, 3)]
set_option maxRecDepth 100000 in
theorem jD243_15 : ∀ q ∈ jP243_15, decode prog_14_method_1_code q.1 = .ok q.2 := by decide +kernel
def jP243_16 : List (Nat × Instr × Nat) := [(347, .aload_n 0, 1), (348, .bipush 6, 2), (350, .newarray .int, 2), (352, .putfield 132, 3), (355, .aload_n 0, 1), (356, .ldc 135, 2), (358, .newarray .int, 2), (360, .putfield 136, 3), (363, .aload_n 0, 1), (364, .ldc 135, 2)]
set_option maxRecDepth 100000 in
theorem jD243_16 : ∀ q ∈ jP243_16, decode prog_14_method_1_code q.1 = .ok q.2 := by decide +kernel
def jP243_17 : List (Nat × Instr × Nat) := [(366, .newarray .int, 2), (368, .putfield 139, 3), (371, .aload_n 0, 1), (372, .ldc 135, 2), (374, .newarray .boolean, 2), (376, .putfield 142, 3), (379, .aload_n 0, 1), (380, .ldc 135, 2), (382, .newarray .int, 2), (384, .putfield 146, 3)]
set_option maxRecDepth 100000 in
theorem jD243_17 : ∀ q ∈ jP243_17, decode prog_14_method_1_code q.1 = .ok q.2 := by decide +kernel
def jP243_18 : List (Nat × Instr × Nat) := [(387, .aload_n 0, 1), (388, .bipush 9, 2), (390, .newarray .int, 2), (392, .putfield 149, 3), (395, .aload_n 0, 1), (396, .sipush 7000, 3), (399, .newarray .int, 2), (401, .putfield 152, 3), (404, .aload_n 0, 1), (405, .sipush 7000, 3)]
set_option maxRecDepth 100000 in
theorem jD243_18 : ∀ q ∈ jP243_18, decode prog_14_method_1_code q.1 = .ok q.2 := by decide +kernel
def jP243_19 : List (Nat × Instr × Nat) := [(408, .newarray .int, 2), (410, .putfield 155, 3), (413, .aload_n 0, 1), (414, .sipush 7000, 3), (417, .newarray .int, 2), (419, .putfield 158, 3), (422, .aload_n 0, 1), (423, .sipush 7000, 3), (426, .newarray .int, 2), (428, .putfield 161, 3)]
set_option maxRecDepth 100000 in
theorem jD243_19 : ∀ q ∈ jP243_19, decode prog_14_method_1_code q.1 = .ok q.2 := by decide +kernel
def jP243_20 : List (Nat × Instr × Nat) := [(431, .aload_n 0, 1), (432, .sipush 7000, 3), (435, .newarray .int, 2), (437, .putfield 164, 3), (440, .aload_n 0, 1), (441, .sipush 7001, 3), (444, .newarray .int, 2), (446, .putfield 167, 3), (449, .aload_n 0, 1), (450, .sipush 20000, 3)]
set_option maxRecDepth 100000 in
theorem jD243_20 : ∀ q ∈ jP243_20, decode prog_14_method_1_code q.1 = .ok q.2 := by decide +kernel
def jP243_21 : List (Nat × Instr × Nat) := [(453, .newarray .int, 2), (455, .putfield 170, 3), (458, .aload_n 0, 1), (459, .bipush 40, 2), (461, .newarray .int, 2), (463, .putfield 173, 3), (466, .aload_n 0, 1), (467, .bipush 25, 2), (469, .newarray .int, 2), (471, .putfield 176, 3)]
set_option maxRecDepth 100000 in
theorem jD243_21 : ∀ q ∈ jP243_21, decode prog_14_method_1_code q.1 = .ok q.2 := by decide +kernel
def jP243_22 : List (Nat × Instr × Nat) := [(474, .aload_n 0, 1), (475, .ldc 179, 2), (477, .newarray .int, 2), (479, .putfield 180, 3), (482, .aload_n 0, 1), (483, .bipush 6, 2), (485, .newarray .int, 2), (487, .putfield 183, 3), (490, .aload_n 0, 1), (491, .bipush 6, 2)]
set_option maxRecDepth 100000 in
theorem jD243_22 : ∀ q ∈ jP243_22, decode prog_14_method_1_code q.1 = .ok q.2 := by decide +kernel
def jP243_23 : List (Nat × Instr × Nat) := [(493, .newarray .int, 2), (495, .putfield 186, 3), (498, .aload_n 0, 1), (499, .sipush 320, 3), (502, .newarray .int, 2), (504, .putfield 189, 3), (507, .aload_n 0, 1), (508, .sipush 320, 3), (511, .newarray .int, 2), (513, .putfield 192, 3)]
set_option maxRecDepth 100000 in
theorem jD243_23 : ∀ q ∈ jP243_23, decode prog_14_method_1_code q.1 = .ok q.2 := by decide +kernel
def jP243_24 : List (Nat × Instr × Nat) := [(516, .aload_n 0, 1), (517, .sipush 320, 3), (520, .newarray .int, 2), (522, .putfield 195, 3), (525, .aload_n 0, 1), (526, .sipush 24096, 3), (529, .newarray .int, 2), (531, .putfield 198, 3), (534, .aload_n 0, 1), (535, .bipush 6, 2)]
set_option maxRecDepth 100000 in
theorem jD243_24 : ∀ q ∈ jP243_24, decode prog_14_method_1_code q.1 = .ok q.2 := by decide +kernel
def jP243_25 : List (Nat × Instr × Nat) := [(537, .newarray .int, 2), (539, .putfield 201, 3), (542, .aload_n 0, 1), (543, .bipush 6, 2), (545, .newarray .int, 2), (547, .putfield 204, 3), (550, .aload_n 0, 1), (551, .bipush 6, 2), (553, .newarray .int, 2), (555, .putfield 207, 3)]
set_option maxRecDepth 100000 in
theorem jD243_25 : ∀ q ∈ jP243_25, decode prog_14_method_1_code q.1 = .ok q.2 := by decide +kernel
def jP243_26 : List (Nat × Instr × Nat) := [(558, .aload_n 0, 1), (559, .bipush 6, 2), (561, .newarray .int, 2), (563, .putfield 210, 3), (566, .aload_n 0, 1), (567, .bipush 6, 2), (569, .newarray .int, 2), (571, .putfield 213, 3), (574, .aload_n 0, 1), (575, .bipush 6, 2)]
set_option maxRecDepth 100000 in
theorem jD243_26 : ∀ q ∈ jP243_26, decode prog_14_method_1_code q.1 = .ok q.2 := by decide +kernel
def jP243_27 : List (Nat × Instr × Nat) := [(577, .newarray .int, 2), (579, .putfield 216, 3), (582, .aload_n 0, 1), (583, .bipush 6, 2), (585, .newarray .int, 2), (587, .putfield 219, 3), (590, .aload_n 0, 1), (591, .bipush 6, 2), (593, .newarray .boolean, 2), (595, .putfield 222, 3)]
set_option maxRecDepth 100000 in
theorem jD243_27 : ∀ q ∈ jP243_27, decode prog_14_method_1_code q.1 = .ok q.2 := by decide +kernel
def jP243_28 : List (Nat × Instr × Nat) := [(598, .aload_n 0, 1), (599, .bipush 6, 2), (601, .newarray .boolean, 2), (603, .putfield 225, 3), (606, .aload_n 0, 1), (607, .bipush 6, 2), (609, .newarray .int, 2), (611, .putfield 228, 3), (614, .aload_n 0, 1), (615, .bipush 6, 2)]
set_option maxRecDepth 100000 in
theorem jD243_28 : ∀ q ∈ jP243_28, decode prog_14_method_1_code q.1 = .ok q.2 := by decide +kernel
def jP243_29 : List (Nat × Instr × Nat) := [(617, .newarray .int, 2), (619, .putfield 231, 3), (622, .aload_n 0, 1), (623, .sipush 13200, 3), (626, .newarray .int, 2), (628, .putfield 234, 3), (631, .aload_n 0, 1), (632, .bipush 12, 2), (634, .newarray .int, 2), (636, .putfield 237, 3)]
set_option maxRecDepth 100000 in
theorem jD243_29 : ∀ q ∈ jP243_29, decode prog_14_method_1_code q.1 = .ok q.2 := by decide +kernel
def jP243_30 : List (Nat × Instr × Nat) := [(639, .aload_n 0, 1), (640, .bipush 6, 2), (642, .newarray .boolean, 2), (644, .putfield 240, 3), (647, .aload_n 0, 1), (648, .bipush 6, 2), (650, .newarray .int, 2), (652, .putfield 243, 3), (655, .aload_n 0, 1), (656, .bipush 6, 2)]
set_option maxRecDepth 100000 in
theorem jD243_30 : ∀ q ∈ jP243_30, decode prog_14_method_1_code q.1 = .ok q.2 := by decide +kernel
def jP243_31 : List (Nat × Instr × Nat) := [(658, .newarray .int, 2), (660, .putfield 246, 3), (663, .aload_n 0, 1), (664, .bipush 6, 2), (666, .newarray .int, 2), (668, .putfield 249, 3), (671, .aload_n 0, 1), (672, .bipush 6, 2), (674, .newarray .int, 2), (676, .putfield 252, 3)]
set_option maxRecDepth 100000 in
theorem jD243_31 : ∀ q ∈ jP243_31, decode prog_14_method_1_code q.1 = .ok q.2 := by decide +kernel
def jP243_32 : List (Nat × Instr × Nat) := [(679, .aload_n 0, 1), (680, .sipush 200, 3), (683, .newarray .int, 2), (685, .putfield 255, 3), (688, .aload_n 0, 1), (689, .sipush 1000, 3), (692, .newarray .int, 2), (694, .putfield 258, 3), (697, .aload_n 0, 1), (698, .bipush 12, 2)]
set_option maxRecDepth 100000 in
theorem jD243_32 : ∀ q ∈ jP243_32, decode prog_14_method_1_code q.1 = .ok q.2 := by decide +kernel
def jP243_33 : List (Nat × Instr × Nat) := [(700, .newarray .boolean, 2), (702, .putfield 261, 3), (705, .aload_n 0, 1), (706, .bipush 12, 2), (708, .newarray .int, 2), (710, .putfield 264, 3), (713, .aload_n 0, 1), (714, .bipush 12, 2), (716, .newarray .int, 2), (718, .putfield 267, 3)]
set_option maxRecDepth 100000 in
theorem jD243_33 : ∀ q ∈ jP243_33, decode prog_14_method_1_code q.1 = .ok q.2 := by decide +kernel
def jP243_34 : List (Nat × Instr × Nat) := [(721, .aload_n 0, 1), (722, .bipush 12, 2), (724, .newarray .int, 2), (726, .putfield 270, 3), (729, .aload_n 0, 1), (730, .bipush 12, 2), (732, .newarray .boolean, 2), (734, .putfield 273, 3), (737, .aload_n 0, 1), (738, .bipush 12, 2)]
set_option maxRecDepth 100000 in
theorem jD243_34 : ∀ q ∈ jP243_34, decode prog_14_method_1_code q.1 = .ok q.2 := by decide +kernel
def jP243_35 : List (Nat × Instr × Nat) := [(740, .newarray .boolean, 2), (742, .putfield 276, 3), (745, .return_, 1)]
set_option maxRecDepth 100000 in
theorem jD243_35 : ∀ q ∈ jP243_35, decode prog_14_method_1_code q.1 = .ok q.2 := by decide +kernel
def jP243 : List (Nat × Instr × Nat) := jP243_0 ++ (jP243_1 ++ (jP243_2 ++ (jP243_3 ++ (jP243_4 ++ (jP243_5 ++ (jP243_6 ++ (jP243_7 ++ (jP243_8 ++ (jP243_9 ++ (jP243_10 ++ (jP243_11 ++ (jP243_12 ++ (jP243_13 ++ (jP243_14 ++ (jP243_15 ++ (jP243_16 ++ (jP243_17 ++ (jP243_18 ++ (jP243_19 ++ (jP243_20 ++ (jP243_21 ++ (jP243_22 ++ (jP243_23 ++ (jP243_24 ++ (jP243_25 ++ (jP243_26 ++ (jP243_27 ++ (jP243_28 ++ (jP243_29 ++ (jP243_30 ++ (jP243_31 ++ (jP243_32 ++ (jP243_33 ++ (jP243_34 ++ (jP243_35)))))))))))))))))))))))))))))))))))
theorem jD243 : ∀ q ∈ jP243, decode prog_14_method_1_code q.1 = .ok q.2 := jApp jD243_0 (jApp jD243_1 (jApp jD243_2 (jApp jD243_3 (jApp jD243_4 (jApp jD243_5 (jApp jD243_6 (jApp jD243_7 (jApp jD243_8 (jApp jD243_9 (jApp jD243_10 (jApp jD243_11 (jApp jD243_12 (jApp jD243_13 (jApp jD243_14 (jApp jD243_15 (jApp jD243_16 (jApp jD243_17 (jApp jD243_18 (jApp jD243_19 (jApp jD243_20 (jApp jD243_21 (jApp jD243_22 (jApp jD243_23 (jApp jD243_24 (jApp jD243_25 (jApp jD243_26 (jApp jD243_27 (jApp jD243_28 (jApp jD243_29 (jApp jD243_30 (jApp jD243_31 (jApp jD243_32 (jApp jD243_33 (jApp jD243_34 jD243_35))))))))))))))))))))))))))))))))))
/-- LinkedCoresModel.thrown()I -/
def jP244 : List (Nat × Instr × Nat) := [(0, .aload_n 0, 1), (1, .getfield 279, 3), (4, .ireturn, 1)]
set_option maxRecDepth 100000 in
theorem jD244 : ∀ q ∈ jP244, decode prog_14_method_2_code q.1 = .ok q.2 := by decide +kernel
/-- LinkedCoresModel.refuse(ZZZ)Z -/
def jP245 : List (Nat × Instr × Nat) := [(0, .aload_n 0, 1), (1, .iload_n 1, 1), (2, .ifCond .eq 7, 3), (5, .iconst 1, 1), (6, .goto 20, 3), (9, .iload_n 2, 1), (10, .ifCond .eq 7, 3), (13, .iconst 2, 1), (14, .goto 12, 3), (17, .iload_n 3, 1), (18, .ifCond .eq 7, 3), (21, .iconst 3, 1), (22, .goto 4, 3), (25, .iconst 0, 1), (26, .putfield 279, 3), (29, .aload_n 0, 1), (30, .getfield 279, 3), (33, .ifCond .le 7, 3), (36, .iconst 1, 1), (37, .goto 4, 3), (40, .iconst 0, 1), (41, .ireturn, 1)]
set_option maxRecDepth 100000 in
theorem jD245 : ∀ q ∈ jP245, decode prog_14_method_3_code q.1 = .ok q.2 := by decide +kernel
/-- LinkedCoresModel.in(III)Z -/
def jP246 : List (Nat × Instr × Nat) := [(0, .iload_n 0, 1), (1, .iload_n 1, 1), (2, .if_icmp .lt 12, 3), (5, .iload_n 0, 1), (6, .iload_n 2, 1), (7, .if_icmp .gt 7, 3), (10, .iconst 1, 1), (11, .goto 4, 3), (14, .iconst 0, 1), (15, .ireturn, 1)]
set_option maxRecDepth 100000 in
theorem jD246 : ∀ q ∈ jP246, decode prog_14_method_4_code q.1 = .ok q.2 := by decide +kernel
/-- LinkedCoresModel.isSign(I)Z -/
def jP247 : List (Nat × Instr × Nat) := [(0, .iload_n 0, 1), (1, .bipush 10, 2), (3, .if_icmp .eq 14, 3), (6, .iload_n 0, 1), (7, .bipush 32, 2), (9, .bipush 126, 2), (11, .invokestatic 282, 3), (14, .ifCond .eq 7, 3), (17, .iconst 1, 1), (18, .goto 4, 3), (21, .iconst 0, 1), (22, .ireturn, 1)]
set_option maxRecDepth 100000 in
theorem jD247 : ∀ q ∈ jP247, decode prog_14_method_5_code q.1 = .ok q.2 := by decide +kernel
/-- LinkedCoresModel.put(I)I -/
def jP248_0 : List (Nat × Instr × Nat) := [(0, .iconst 0, 1), (1, .istore_n 2, 1), (2, .iconst 0, 1), (3, .istore_n 3, 1), (4, .iconst 0, 1), (5, .istore 4, 2), (7, .iload 4, 2), (9, .bipush 32, 2), (11, .if_icmp .ge 55, 3), (14, .iload_n 1, 1), (15, .iload 4, 2), (17, .ishr, 1), (18, .sipush 255, 3), (21, .iand, 1), (22, .istore 5, 2), (24, .iload_n 2, 1), (25, .ifCond .ne 16, 3), (28, .iload 5, 2), (30, .ifCond .eq 15, 3), (33, .iload 5, 2), (35, .invokestatic 286, 3), (38, .ifCond .ne 7, 3), (41, .iconst 1, 1), (42, .goto 4, 3), (45, .iconst 0, 1), (46, .istore_n 2, 1), (47, .iload 5, 2), (49, .ifCond .eq 9, 3), (52, .iload_n 3, 1), (53, .iconst 1, 1), (54, .iadd, 1), (55, .goto 4, 3), (58, .iload_n 3, 1), (59, .istore_n 3, 1), (60, .iinc 4 8, 3), (63, .goto (-56), 3), (66, .aload_n 0, 1), (67, .iload_n 2, 1), (68, .iload_n 2, 1), (69, .ifCond .ne 19, 3), (72, .aload_n 0, 1), (73, .getfield 290, 3), (76, .iload_n 3, 1), (77, .iadd, 1), (78, .sipush 3000, 3), (81, .if_icmp .le 7, 3), (84, .iconst 1, 1), (85, .goto 4, 3), (88, .iconst 0, 1), (89, .iconst 0, 1), (90, .invokevirtual 293, 3)]
set_option maxRecDepth 100000 in
theorem jD248_0 : ∀ q ∈ jP248_0, decode prog_14_method_6_code q.1 = .ok q.2 := by decide +kernel
def jP248_1 : List (Nat × Instr × Nat) := [(93, .ifCond .eq 5, 3), (96, .iconst 0, 1), (97, .ireturn, 1), (98, .iconst 0, 1), (99, .istore 4, 2), (101, .iload 4, 2), (103, .bipush 32, 2), (105, .if_icmp .ge 45, 3), (108, .iload_n 1, 1), (109, .iload 4, 2), (111, .ishr, 1), (112, .sipush 255, 3), (115, .iand, 1), (116, .istore 5, 2), (118, .iload 5, 2), (120, .ifCond .eq 24, 3), (123, .aload_n 0, 1), (124, .getfield 7, 3), (127, .aload_n 0, 1), (128, .getfield 290, 3), (131, .iload 5, 2), (133, .iastore, 1), (134, .aload_n 0, 1), (135, .dup, 1), (136, .getfield 290, 3), (139, .iconst 1, 1), (140, .iadd, 1), (141, .putfield 290, 3), (144, .iinc 4 8, 3), (147, .goto (-46), 3), (150, .aload_n 0, 1), (151, .getfield 290, 3), (154, .ireturn, 1)]
set_option maxRecDepth 100000 in
theorem jD248_1 : ∀ q ∈ jP248_1, decode prog_14_method_6_code q.1 = .ok q.2 := by decide +kernel
def jP248 : List (Nat × Instr × Nat) := jP248_0 ++ (jP248_1)
theorem jD248 : ∀ q ∈ jP248, decode prog_14_method_6_code q.1 = .ok q.2 := jApp jD248_0 jD248_1
/-- LinkedCoresModel.end(I)V -/
def jP249 : List (Nat × Instr × Nat) := [(0, .aload_n 0, 1), (1, .iload_n 1, 1), (2, .iconst 0, 1), (3, .aload_n 0, 1), (4, .getfield 290, 3), (7, .invokestatic 282, 3), (10, .ifCond .ne 7, 3), (13, .iconst 1, 1), (14, .goto 4, 3), (17, .iconst 0, 1), (18, .iconst 0, 1), (19, .iconst 0, 1), (20, .invokevirtual 293, 3), (23, .ifCond .ne 8, 3), (26, .aload_n 0, 1), (27, .iload_n 1, 1), (28, .putfield 290, 3), (31, .return_, 1)]
set_option maxRecDepth 100000 in
theorem jD249 : ∀ q ∈ jP249, decode prog_14_method_7_code q.1 = .ok q.2 := by decide +kernel
/-- LinkedCoresModel.fail(II)V -/
def jP250 : List (Nat × Instr × Nat) := [(0, .aload_n 0, 1), (1, .getfield 297, 3), (4, .ifCond .ne 56, 3), (7, .aload_n 0, 1), (8, .iload_n 1, 1), (9, .putfield 297, 3), (12, .aload_n 0, 1), (13, .aload_n 0, 1), (14, .getfield 300, 3), (17, .aload_n 0, 1), (18, .getfield 303, 3), (21, .if_icmp .ge 15, 3), (24, .aload_n 0, 1), (25, .getfield 13, 3), (28, .aload_n 0, 1), (29, .getfield 300, 3), (32, .iaload, 1), (33, .goto 4, 3), (36, .iconst (-1), 1), (37, .putfield 28, 3), (40, .aload_n 0, 1), (41, .aload_n 0, 1), (42, .getfield 300, 3), (45, .aload_n 0, 1), (46, .getfield 303, 3), (49, .if_icmp .ge 7, 3), (52, .iload_n 2, 1), (53, .goto 4, 3), (56, .iconst (-1), 1), (57, .putfield 32, 3), (60, .return_, 1)]
set_option maxRecDepth 100000 in
theorem jD250 : ∀ q ∈ jP250, decode prog_14_method_8_code q.1 = .ok q.2 := by decide +kernel
/-- LinkedCoresModel.bad()Z -/
def jP251 : List (Nat × Instr × Nat) := [(0, .aload_n 0, 1), (1, .getfield 297, 3), (4, .ifCond .eq 7, 3), (7, .iconst 1, 1), (8, .goto 4, 3), (11, .iconst 0, 1), (12, .ireturn, 1)]
set_option maxRecDepth 100000 in
theorem jD251 : ∀ q ∈ jP251, decode prog_14_method_9_code q.1 = .ok q.2 := by decide +kernel
/-- LinkedCoresModel.findLines()V -/
def jP252_0 : List (Nat × Instr × Nat) := [(0, .aload_n 0, 1), (1, .iconst 0, 1), (2, .putfield 303, 3), (5, .iconst 0, 1), (6, .istore_n 1, 1), (7, .iconst 0, 1), (8, .istore_n 2, 1), (9, .iload_n 1, 1), (10, .aload_n 0, 1), (11, .getfield 290, 3), (14, .if_icmp .gt 213, 3), (17, .iload_n 1, 1), (18, .istore_n 3, 1), (19, .iload_n 3, 1), (20, .aload_n 0, 1), (21, .getfield 290, 3), (24, .if_icmp .ge 20, 3), (27, .aload_n 0, 1), (28, .getfield 7, 3), (31, .iload_n 3, 1), (32, .iaload, 1), (33, .bipush 10, 2), (35, .if_icmp .eq 9, 3), (38, .iinc 3 1, 3), (41, .goto (-22), 3), (44, .iload_n 1, 1), (45, .istore 4, 2), (47, .iload 4, 2), (49, .iload_n 3, 1), (50, .if_icmp .ge 43, 3), (53, .aload_n 0, 1), (54, .getfield 7, 3), (57, .iload 4, 2), (59, .iaload, 1), (60, .bipush 45, 2)]
set_option maxRecDepth 100000 in
theorem jD252_0 : ∀ q ∈ jP252_0, decode prog_14_method_10_code q.1 = .ok q.2 := by decide +kernel
def jP252_1 : List (Nat × Instr × Nat) := [(62, .if_icmp .ne 25, 3), (65, .iload 4, 2), (67, .iconst 1, 1), (68, .iadd, 1), (69, .iload_n 3, 1), (70, .if_icmp .ge 17, 3), (73, .aload_n 0, 1), (74, .getfield 7, 3), (77, .iload 4, 2), (79, .iconst 1, 1), (80, .iadd, 1), (81, .iaload, 1), (82, .bipush 45, 2), (84, .if_icmp .eq 9, 3), (87, .iinc 4 1, 3), (90, .goto (-43), 3), (93, .iload_n 1, 1), (94, .istore 5, 2), (96, .iload 5, 2), (98, .iload 4, 2), (100, .if_icmp .ge 21, 3), (103, .aload_n 0, 1), (104, .getfield 7, 3), (107, .iload 5, 2), (109, .iaload, 1), (110, .bipush 32, 2), (112, .if_icmp .ne 9, 3), (115, .iinc 5 1, 3), (118, .goto (-22), 3), (121, .iload 5, 2), (123, .iload 4, 2), (125, .if_icmp .ge 92, 3), (128, .aload_n 0, 1), (129, .getfield 13, 3), (132, .aload_n 0, 1)]
set_option maxRecDepth 100000 in
theorem jD252_1 : ∀ q ∈ jP252_1, decode prog_14_method_10_code q.1 = .ok q.2 := by decide +kernel
def jP252_2 : List (Nat × Instr × Nat) := [(133, .getfield 303, 3), (136, .iload_n 2, 1), (137, .iastore, 1), (138, .aload_n 0, 1), (139, .getfield 16, 3), (142, .aload_n 0, 1), (143, .getfield 303, 3), (146, .iload_n 1, 1), (147, .iastore, 1), (148, .aload_n 0, 1), (149, .getfield 19, 3), (152, .aload_n 0, 1), (153, .getfield 303, 3), (156, .iload 5, 2), (158, .iastore, 1), (159, .aload_n 0, 1), (160, .getfield 22, 3), (163, .aload_n 0, 1), (164, .getfield 303, 3), (167, .iload 4, 2), (169, .iastore, 1), (170, .aload_n 0, 1), (171, .getfield 25, 3), (174, .aload_n 0, 1), (175, .getfield 303, 3), (178, .iload 5, 2), (180, .iload_n 1, 1), (181, .isub, 1), (182, .iconst 2, 1), (183, .irem, 1), (184, .ifCond .ne 21, 3), (187, .iload 5, 2), (189, .iload_n 1, 1), (190, .isub, 1), (191, .bipush 32, 2)]
set_option maxRecDepth 100000 in
theorem jD252_2 : ∀ q ∈ jP252_2, decode prog_14_method_10_code q.1 = .ok q.2 := by decide +kernel
def jP252_3 : List (Nat × Instr × Nat) := [(193, .if_icmp .ge 12, 3), (196, .iload 5, 2), (198, .iload_n 1, 1), (199, .isub, 1), (200, .iconst 2, 1), (201, .idiv, 1), (202, .goto 4, 3), (205, .iconst (-1), 1), (206, .iastore, 1), (207, .aload_n 0, 1), (208, .dup, 1), (209, .getfield 303, 3), (212, .iconst 1, 1), (213, .iadd, 1), (214, .putfield 303, 3), (217, .iinc 2 1, 3), (220, .iload_n 3, 1), (221, .iconst 1, 1), (222, .iadd, 1), (223, .istore_n 1, 1), (224, .goto (-215), 3), (227, .return_, 1)]
set_option maxRecDepth 100000 in
theorem jD252_3 : ∀ q ∈ jP252_3, decode prog_14_method_10_code q.1 = .ok q.2 := by decide +kernel
def jP252 : List (Nat × Instr × Nat) := jP252_0 ++ (jP252_1 ++ (jP252_2 ++ (jP252_3)))
theorem jD252 : ∀ q ∈ jP252, decode prog_14_method_10_code q.1 = .ok q.2 := jApp jD252_0 (jApp jD252_1 (jApp jD252_2 jD252_3))
/-- LinkedCoresModel.sign(I)I -/
def jP253 : List (Nat × Instr × Nat) := [(0, .iload_n 1, 1), (1, .aload_n 0, 1), (2, .getfield 22, 3), (5, .aload_n 0, 1), (6, .getfield 300, 3), (9, .iaload, 1), (10, .if_icmp .ge 12, 3), (13, .aload_n 0, 1), (14, .getfield 7, 3), (17, .iload_n 1, 1), (18, .iaload, 1), (19, .goto 4, 3), (22, .iconst 0, 1), (23, .ireturn, 1)]
set_option maxRecDepth 100000 in
theorem jD253 : ∀ q ∈ jP253, decode prog_14_method_11_code q.1 = .ok q.2 := by decide +kernel
/-- LinkedCoresModel.isSmall(I)Z -/
def jP254 : List (Nat × Instr × Nat) := [(0, .iload_n 0, 1), (1, .bipush 97, 2), (3, .if_icmp .lt 13, 3), (6, .iload_n 0, 1), (7, .bipush 122, 2), (9, .if_icmp .gt 7, 3), (12, .iconst 1, 1), (13, .goto 4, 3), (16, .iconst 0, 1), (17, .ireturn, 1)]
set_option maxRecDepth 100000 in
theorem jD254 : ∀ q ∈ jP254, decode prog_14_method_12_code q.1 = .ok q.2 := by decide +kernel
/-- LinkedCoresModel.isBig(I)Z -/
def jP255 : List (Nat × Instr × Nat) := [(0, .iload_n 0, 1), (1, .bipush 65, 2), (3, .if_icmp .lt 13, 3), (6, .iload_n 0, 1), (7, .bipush 90, 2), (9, .if_icmp .gt 7, 3), (12, .iconst 1, 1), (13, .goto 4, 3), (16, .iconst 0, 1), (17, .ireturn, 1)]
set_option maxRecDepth 100000 in
theorem jD255 : ∀ q ∈ jP255, decode prog_14_method_13_code q.1 = .ok q.2 := by decide +kernel
/-- LinkedCoresModel.isDigit(I)Z -/
def jP256 : List (Nat × Instr × Nat) := [(0, .iload_n 0, 1), (1, .bipush 48, 2), (3, .if_icmp .lt 13, 3), (6, .iload_n 0, 1), (7, .bipush 57, 2), (9, .if_icmp .gt 7, 3), (12, .iconst 1, 1), (13, .goto 4, 3), (16, .iconst 0, 1), (17, .ireturn, 1)]
set_option maxRecDepth 100000 in
theorem jD256 : ∀ q ∈ jP256, decode prog_14_method_14_code q.1 = .ok q.2 := by decide +kernel
/-- LinkedCoresModel.digit(I)J -/
def jP257 : List (Nat × Instr × Nat) := [(0, .iload_n 0, 1), (1, .invokestatic 306, 3), (4, .ifCond .eq 13, 3), (7, .iload_n 0, 1), (8, .bipush 97, 2), (10, .isub, 1), (11, .i2l, 1), (12, .lconst 1, 1), (13, .ladd, 1), (14, .goto 25, 3), (17, .iload_n 0, 1), (18, .invokestatic 309, 3), (21, .ifCond .eq 15, 3), (24, .iload_n 0, 1), (25, .bipush 48, 2), (27, .isub, 1), (28, .i2l, 1), (29, .ldc2_w 312, 3), (32, .ladd, 1), (33, .goto 6, 3), (36, .ldc2_w 314, 3), (39, .lreturn, 1)]
set_option maxRecDepth 100000 in
theorem jD257 : ∀ q ∈ jP257, decode prog_14_method_15_code q.1 = .ok q.2 := by decide +kernel
/-- LinkedCoresModel.openLine()V -/
def jP258 : List (Nat × Instr × Nat) := [(0, .aload_n 0, 1), (1, .aload_n 0, 1), (2, .getfield 19, 3), (5, .aload_n 0, 1), (6, .getfield 300, 3), (9, .iaload, 1), (10, .putfield 316, 3), (13, .aload_n 0, 1), (14, .iconst 0, 1), (15, .putfield 319, 3), (18, .aload_n 0, 1), (19, .invokevirtual 322, 3), (22, .return_, 1)]
set_option maxRecDepth 100000 in
theorem jD258 : ∀ q ∈ jP258, decode prog_14_method_16_code q.1 = .ok q.2 := by decide +kernel
/-- LinkedCoresModel.next()V -/
def jP259_0 : List (Nat × Instr × Nat) := [(0, .aload_n 0, 1), (1, .aload_n 0, 1), (2, .getfield 316, 3), (5, .invokevirtual 325, 3), (8, .bipush 32, 2), (10, .if_icmp .ne 16, 3), (13, .aload_n 0, 1), (14, .dup, 1), (15, .getfield 316, 3), (18, .iconst 1, 1), (19, .iadd, 1), (20, .putfield 316, 3), (23, .goto (-23), 3), (26, .aload_n 0, 1), (27, .aload_n 0, 1), (28, .getfield 316, 3), (31, .aload_n 0, 1), (32, .getfield 16, 3), (35, .aload_n 0, 1), (36, .getfield 300, 3), (39, .iaload, 1), (40, .isub, 1), (41, .putfield 329, 3), (44, .aload_n 0, 1), (45, .aload_n 0, 1), (46, .getfield 316, 3), (49, .invokevirtual 325, 3), (52, .istore_n 1, 1), (53, .iload_n 1, 1), (54, .ifCond .ne 34, 3), (57, .aload_n 0, 1), (58, .iconst 0, 1), (59, .putfield 332, 3), (62, .aload_n 0, 1), (63, .aload_n 0, 1), (64, .getfield 22, 3), (67, .aload_n 0, 1), (68, .getfield 300, 3), (71, .iaload, 1), (72, .aload_n 0, 1), (73, .getfield 16, 3), (76, .aload_n 0, 1), (77, .getfield 300, 3), (80, .iaload, 1), (81, .isub, 1), (82, .putfield 329, 3), (85, .goto 50, 3), (88, .iload_n 1, 1), (89, .invokestatic 306, 3), (92, .ifCond .eq 10, 3), (95, .aload_n 0, 1), (96, .invokevirtual 335, 3), (99, .goto 36, 3), (102, .iload_n 1, 1), (103, .invokestatic 338, 3), (106, .ifCond .eq 10, 3), (109, .aload_n 0, 1), (110, .invokevirtual 341, 3)]
set_option maxRecDepth 100000 in
theorem jD259_0 : ∀ q ∈ jP259_0, decode prog_14_method_17_code q.1 = .ok q.2 := by decide +kernel
def jP259_1 : List (Nat × Instr × Nat) := [(113, .goto 22, 3), (116, .iload_n 1, 1), (117, .invokestatic 309, 3), (120, .ifCond .eq 10, 3), (123, .aload_n 0, 1), (124, .invokevirtual 344, 3), (127, .goto 8, 3), (130, .aload_n 0, 1), (131, .iload_n 1, 1), (132, .invokevirtual 347, 3), (135, .return_, 1)]
set_option maxRecDepth 100000 in
theorem jD259_1 : ∀ q ∈ jP259_1, decode prog_14_method_17_code q.1 = .ok q.2 := by decide +kernel
def jP259 : List (Nat × Instr × Nat) := jP259_0 ++ (jP259_1)
theorem jD259 : ∀ q ∈ jP259, decode prog_14_method_17_code q.1 = .ok q.2 := jApp jD259_0 jD259_1
