/-- EscapeCellsModel.person(IIII)I -/
def mc77_0 : List (Nat × Instr × Nat × Nat) := [(0, .aload_n 0, 1, 0), (1, .iload_n 1, 1, 0), (2, .iload_n 2, 1, 0), (3, .invokevirtual 101, 3, 0), (6, .ifCond .eq 30, 3, 36), (9, .iload_n 3, 1, 0), (10, .ifCond .le 26, 3, 36), (13, .iload_n 3, 1, 0), (14, .bipush 6, 2, 0), (16, .if_icmp .ge 20, 3, 36), (19, .iload 4, 2, 0), (21, .ifCond .lt 15, 3, 36)]
theorem mk77_0 : (mc77_0).all (m_okI prog_8_method_12_code) = true := by decide +kernel
def mc77_1 : List (Nat × Instr × Nat × Nat) := [(24, .iload 4, 2, 0), (26, .sipush 600, 3, 0), (29, .if_icmp .gt 7, 3, 36), (32, .iconst 1, 1, 0), (33, .goto 4, 3, 37), (36, .iconst 0, 1, 0), (37, .istore 5, 2, 0), (39, .iload 5, 2, 0), (41, .ifCond .eq 11, 3, 52), (44, .iload_n 1, 1, 0), (45, .iload_n 2, 1, 0), (46, .invokestatic 105, 3, 0)]
theorem mk77_1 : (mc77_1).all (m_okI prog_8_method_12_code) = true := by decide +kernel
def mc77_2 : List (Nat × Instr × Nat × Nat) := [(49, .goto 4, 3, 53), (52, .iconst 0, 1, 0), (53, .istore 6, 2, 0), (55, .aload_n 0, 1, 0), (56, .iload 5, 2, 0), (58, .ifCond .ne 7, 3, 65), (61, .iconst 1, 1, 0), (62, .goto 46, 3, 108), (65, .aload_n 0, 1, 0), (66, .getfield 7, 3, 0), (69, .iload 6, 2, 0), (71, .baload, 1, 0)]
theorem mk77_2 : (mc77_2).all (m_okI prog_8_method_12_code) = true := by decide +kernel
def mc77_3 : List (Nat × Instr × Nat × Nat) := [(72, .ifCond .ne 31, 3, 103), (75, .aload_n 0, 1, 0), (76, .getfield 13, 3, 0), (79, .iload 6, 2, 0), (81, .iaload, 1, 0), (82, .ifCond .ge 21, 3, 103), (85, .aload_n 0, 1, 0), (86, .iload 6, 2, 0), (88, .invokevirtual 109, 3, 0), (91, .ifCond .ne 12, 3, 103), (94, .aload_n 0, 1, 0), (95, .getfield 91, 3, 0)]
theorem mk77_3 : (mc77_3).all (m_okI prog_8_method_12_code) = true := by decide +kernel
def mc77_4 : List (Nat × Instr × Nat × Nat) := [(98, .bipush 60, 2, 0), (100, .if_icmp .ne 7, 3, 107), (103, .iconst 2, 1, 0), (104, .goto 4, 3, 108), (107, .iconst 0, 1, 0), (108, .invokevirtual 113, 3, 0), (111, .ifCond .eq 5, 3, 116), (114, .iconst 0, 1, 0), (115, .ireturn, 1, 0), (116, .aload_n 0, 1, 0), (117, .getfield 26, 3, 0), (120, .aload_n 0, 1, 0)]
theorem mk77_4 : (mc77_4).all (m_okI prog_8_method_12_code) = true := by decide +kernel
def mc77_5 : List (Nat × Instr × Nat × Nat) := [(121, .getfield 91, 3, 0), (124, .iload 6, 2, 0), (126, .iastore, 1, 0), (127, .aload_n 0, 1, 0), (128, .getfield 29, 3, 0), (131, .aload_n 0, 1, 0), (132, .getfield 91, 3, 0), (135, .iload_n 3, 1, 0), (136, .iastore, 1, 0), (137, .aload_n 0, 1, 0), (138, .getfield 32, 3, 0), (141, .aload_n 0, 1, 0)]
theorem mk77_5 : (mc77_5).all (m_okI prog_8_method_12_code) = true := by decide +kernel
def mc77_6 : List (Nat × Instr × Nat × Nat) := [(142, .getfield 91, 3, 0), (145, .iload 4, 2, 0), (147, .iastore, 1, 0), (148, .aload_n 0, 1, 0), (149, .getfield 35, 3, 0), (152, .aload_n 0, 1, 0), (153, .getfield 91, 3, 0), (156, .iconst (-1), 1, 0), (157, .iastore, 1, 0), (158, .aload_n 0, 1, 0), (159, .dup, 1, 0), (160, .getfield 91, 3, 0)]
theorem mk77_6 : (mc77_6).all (m_okI prog_8_method_12_code) = true := by decide +kernel
def mc77_7 : List (Nat × Instr × Nat × Nat) := [(163, .iconst 1, 1, 0), (164, .iadd, 1, 0), (165, .putfield 91, 3, 0), (168, .aload_n 0, 1, 0), (169, .invokevirtual 116, 3, 0), (172, .aload_n 0, 1, 0), (173, .getfield 91, 3, 0), (176, .iconst 1, 1, 0), (177, .isub, 1, 0), (178, .ireturn, 1, 0)]
theorem mk77_7 : (mc77_7).all (m_okI prog_8_method_12_code) = true := by decide +kernel
def mc77 : List (Nat × List (Nat × Instr × Nat × Nat)) := [(22, mc77_0), (47, mc77_1), (72, mc77_2), (96, mc77_3), (121, mc77_4), (142, mc77_5), (161, mc77_6), (179, mc77_7)]
theorem mk77 : ∀ c ∈ mc77, c.2.all (m_okI prog_8_method_12_code) = true := by
  simp only [mc77, List.forall_mem_cons, List.not_mem_nil, false_implies, implies_true, and_true]
  exact ⟨mk77_0, mk77_1, mk77_2, mk77_3, mk77_4, mk77_5, mk77_6, mk77_7⟩
/-- EscapeCellsModel.habit(II)I -/
def mc78_0 : List (Nat × Instr × Nat × Nat) := [(0, .aload_n 0, 1, 0), (1, .iload_n 1, 1, 0), (2, .ifCond .lt 24, 3, 26), (5, .iload_n 1, 1, 0), (6, .aload_n 0, 1, 0), (7, .getfield 91, 3, 0), (10, .if_icmp .ge 16, 3, 26), (13, .iload_n 2, 1, 0), (14, .iconst (-1), 1, 0), (15, .if_icmp .lt 11, 3, 26), (18, .iload_n 2, 1, 0), (19, .aload_n 0, 1, 0)]
theorem mk78_0 : (mc78_0).all (m_okI prog_8_method_13_code) = true := by decide +kernel
def mc78_1 : List (Nat × Instr × Nat × Nat) := [(20, .getfield 119, 3, 0), (23, .if_icmp .lt 7, 3, 30), (26, .iconst 1, 1, 0), (27, .goto 4, 3, 31), (30, .iconst 0, 1, 0), (31, .invokevirtual 113, 3, 0), (34, .ifCond .eq 5, 3, 39), (37, .iconst 0, 1, 0), (38, .ireturn, 1, 0), (39, .aload_n 0, 1, 0), (40, .getfield 35, 3, 0), (43, .iload_n 1, 1, 0)]
theorem mk78_1 : (mc78_1).all (m_okI prog_8_method_13_code) = true := by decide +kernel
def mc78_2 : List (Nat × Instr × Nat × Nat) := [(44, .iaload, 1, 0), (45, .istore_n 3, 1, 0), (46, .aload_n 0, 1, 0), (47, .getfield 35, 3, 0), (50, .iload_n 1, 1, 0), (51, .iload_n 2, 1, 0), (52, .iastore, 1, 0), (53, .aload_n 0, 1, 0), (54, .invokevirtual 116, 3, 0), (57, .iload_n 3, 1, 0), (58, .ireturn, 1, 0)]
theorem mk78_2 : (mc78_2).all (m_okI prog_8_method_13_code) = true := by decide +kernel
def mc78 : List (Nat × List (Nat × Instr × Nat × Nat)) := [(20, mc78_0), (44, mc78_1), (59, mc78_2)]
theorem mk78 : ∀ c ∈ mc78, c.2.all (m_okI prog_8_method_13_code) = true := by
  simp only [mc78, List.forall_mem_cons, List.not_mem_nil, false_implies, implies_true, and_true]
  exact ⟨mk78_0, mk78_1, mk78_2⟩
/-- EscapeCellsModel.beside(II)I -/
def mc79_0 : List (Nat × Instr × Nat × Nat) := [(0, .iload_n 1, 1, 0), (1, .bipush 24, 2, 0), (3, .irem, 1, 0), (4, .iload_n 2, 1, 0), (5, .ifCond .ne 7, 3, 12), (8, .iconst 1, 1, 0), (9, .goto 13, 3, 22), (12, .iload_n 2, 1, 0), (13, .iconst 1, 1, 0), (14, .if_icmp .ne 7, 3, 21), (17, .iconst (-1), 1, 0), (18, .goto 4, 3, 22)]
theorem mk79_0 : (mc79_0).all (m_okI prog_8_method_14_code) = true := by decide +kernel
def mc79_1 : List (Nat × Instr × Nat × Nat) := [(21, .iconst 0, 1, 0), (22, .iadd, 1, 0), (23, .istore_n 3, 1, 0), (24, .iload_n 1, 1, 0), (25, .bipush 24, 2, 0), (27, .idiv, 1, 0), (28, .iload_n 2, 1, 0), (29, .iconst 2, 1, 0), (30, .if_icmp .ne 7, 3, 37), (33, .iconst 1, 1, 0), (34, .goto 13, 3, 47), (37, .iload_n 2, 1, 0)]
theorem mk79_1 : (mc79_1).all (m_okI prog_8_method_14_code) = true := by decide +kernel
def mc79_2 : List (Nat × Instr × Nat × Nat) := [(38, .iconst 3, 1, 0), (39, .if_icmp .ne 7, 3, 46), (42, .iconst (-1), 1, 0), (43, .goto 4, 3, 47), (46, .iconst 0, 1, 0), (47, .iadd, 1, 0), (48, .istore 4, 2, 0), (50, .aload_n 0, 1, 0), (51, .iload_n 3, 1, 0), (52, .iload 4, 2, 0), (54, .invokevirtual 101, 3, 0), (57, .ifCond .eq 12, 3, 69)]
theorem mk79_2 : (mc79_2).all (m_okI prog_8_method_14_code) = true := by decide +kernel
def mc79_3 : List (Nat × Instr × Nat × Nat) := [(60, .iload_n 3, 1, 0), (61, .iload 4, 2, 0), (63, .invokestatic 105, 3, 0), (66, .goto 4, 3, 70), (69, .iconst (-1), 1, 0), (70, .ireturn, 1, 0)]
theorem mk79_3 : (mc79_3).all (m_okI prog_8_method_14_code) = true := by decide +kernel
def mc79 : List (Nat × List (Nat × Instr × Nat × Nat)) := [(19, mc79_0), (38, mc79_1), (58, mc79_2), (71, mc79_3)]
theorem mk79 : ∀ c ∈ mc79, c.2.all (m_okI prog_8_method_14_code) = true := by
  simp only [mc79, List.forall_mem_cons, List.not_mem_nil, false_implies, implies_true, and_true]
  exact ⟨mk79_0, mk79_1, mk79_2, mk79_3⟩
/-- EscapeCellsModel.isGoal(II)Z -/
def mc80_0 : List (Nat × Instr × Nat × Nat) := [(0, .iload_n 1, 1, 0), (1, .bipush 8, 2, 0), (3, .if_icmp .ne 20, 3, 23), (6, .aload_n 0, 1, 0), (7, .getfield 13, 3, 0), (10, .iload_n 2, 1, 0), (11, .iaload, 1, 0), (12, .ifCond .lt 7, 3, 19), (15, .iconst 1, 1, 0), (16, .goto 22, 3, 38), (19, .iconst 0, 1, 0), (20, .goto 18, 3, 38)]
theorem mk80_0 : (mc80_0).all (m_okI prog_8_method_15_code) = true := by decide +kernel
def mc80_1 : List (Nat × Instr × Nat × Nat) := [(23, .aload_n 0, 1, 0), (24, .getfield 13, 3, 0), (27, .iload_n 2, 1, 0), (28, .iaload, 1, 0), (29, .iload_n 1, 1, 0), (30, .if_icmp .ne 7, 3, 37), (33, .iconst 1, 1, 0), (34, .goto 4, 3, 38), (37, .iconst 0, 1, 0), (38, .ireturn, 1, 0)]
theorem mk80_1 : (mc80_1).all (m_okI prog_8_method_15_code) = true := by decide +kernel
def mc80 : List (Nat × List (Nat × Instr × Nat × Nat)) := [(21, mc80_0), (39, mc80_1)]
theorem mk80 : ∀ c ∈ mc80, c.2.all (m_okI prog_8_method_15_code) = true := by
  simp only [mc80, List.forall_mem_cons, List.not_mem_nil, false_implies, implies_true, and_true]
  exact ⟨mk80_0, mk80_1⟩
/-- EscapeCellsModel.find(I)V -/
def mc81_0 : List (Nat × Instr × Nat × Nat) := [(0, .iconst 0, 1, 0), (1, .istore_n 2, 1, 0), (2, .iconst 0, 1, 0), (3, .istore_n 3, 1, 0), (4, .iload_n 3, 1, 0), (5, .sipush 576, 3, 0), (8, .if_icmp .ge 54, 3, 62), (11, .aload_n 0, 1, 0), (12, .iload_n 1, 1, 0), (13, .iload_n 3, 1, 0), (14, .invokevirtual 122, 3, 0), (17, .istore 4, 2, 0)]
theorem mk81_0 : (mc81_0).all (m_okI prog_8_method_16_code) = true := by decide +kernel
def mc81_1 : List (Nat × Instr × Nat × Nat) := [(19, .aload_n 0, 1, 0), (20, .getfield 38, 3, 0), (23, .sipush 576, 3, 0), (26, .iload_n 1, 1, 0), (27, .imul, 1, 0), (28, .iload_n 3, 1, 0), (29, .iadd, 1, 0), (30, .iload 4, 2, 0), (32, .ifCond .eq 7, 3, 39), (35, .iconst 0, 1, 0), (36, .goto 4, 3, 40), (39, .iconst (-1), 1, 0)]
theorem mk81_1 : (mc81_1).all (m_okI prog_8_method_16_code) = true := by decide +kernel
def mc81_2 : List (Nat × Instr × Nat × Nat) := [(40, .iastore, 1, 0), (41, .iload 4, 2, 0), (43, .ifCond .eq 13, 3, 56), (46, .aload_n 0, 1, 0), (47, .getfield 41, 3, 0), (50, .iload_n 2, 1, 0), (51, .iload_n 3, 1, 0), (52, .iastore, 1, 0), (53, .iinc 2 1, 3, 0), (56, .iinc 3 1, 3, 0), (59, .goto (-55), 3, 4), (62, .iconst 0, 1, 0)]
theorem mk81_2 : (mc81_2).all (m_okI prog_8_method_16_code) = true := by decide +kernel
def mc81_3 : List (Nat × Instr × Nat × Nat) := [(63, .istore_n 3, 1, 0), (64, .iload_n 3, 1, 0), (65, .iload_n 2, 1, 0), (66, .if_icmp .ge 112, 3, 178), (69, .iconst 0, 1, 0), (70, .istore 4, 2, 0), (72, .iload 4, 2, 0), (74, .iconst 4, 1, 0), (75, .if_icmp .ge 97, 3, 172), (78, .aload_n 0, 1, 0), (79, .aload_n 0, 1, 0), (80, .getfield 41, 3, 0)]
theorem mk81_3 : (mc81_3).all (m_okI prog_8_method_16_code) = true := by decide +kernel
def mc81_4 : List (Nat × Instr × Nat × Nat) := [(83, .iload_n 3, 1, 0), (84, .iaload, 1, 0), (85, .iload 4, 2, 0), (87, .invokevirtual 125, 3, 0), (90, .istore 5, 2, 0), (92, .iload 5, 2, 0), (94, .ifCond .lt 72, 3, 166), (97, .aload_n 0, 1, 0), (98, .getfield 7, 3, 0), (101, .iload 5, 2, 0), (103, .baload, 1, 0), (104, .ifCond .ne 62, 3, 166)]
theorem mk81_4 : (mc81_4).all (m_okI prog_8_method_16_code) = true := by decide +kernel
def mc81_5 : List (Nat × Instr × Nat × Nat) := [(107, .aload_n 0, 1, 0), (108, .getfield 38, 3, 0), (111, .sipush 576, 3, 0), (114, .iload_n 1, 1, 0), (115, .imul, 1, 0), (116, .iload 5, 2, 0), (118, .iadd, 1, 0), (119, .iaload, 1, 0), (120, .ifCond .ge 46, 3, 166), (123, .aload_n 0, 1, 0), (124, .getfield 38, 3, 0), (127, .sipush 576, 3, 0)]
theorem mk81_5 : (mc81_5).all (m_okI prog_8_method_16_code) = true := by decide +kernel
def mc81_6 : List (Nat × Instr × Nat × Nat) := [(130, .iload_n 1, 1, 0), (131, .imul, 1, 0), (132, .iload 5, 2, 0), (134, .iadd, 1, 0), (135, .aload_n 0, 1, 0), (136, .getfield 38, 3, 0), (139, .sipush 576, 3, 0), (142, .iload_n 1, 1, 0), (143, .imul, 1, 0), (144, .aload_n 0, 1, 0), (145, .getfield 41, 3, 0), (148, .iload_n 3, 1, 0)]
theorem mk81_6 : (mc81_6).all (m_okI prog_8_method_16_code) = true := by decide +kernel
def mc81_7 : List (Nat × Instr × Nat × Nat) := [(149, .iaload, 1, 0), (150, .iadd, 1, 0), (151, .iaload, 1, 0), (152, .iconst 1, 1, 0), (153, .iadd, 1, 0), (154, .iastore, 1, 0), (155, .aload_n 0, 1, 0), (156, .getfield 41, 3, 0), (159, .iload_n 2, 1, 0), (160, .iload 5, 2, 0), (162, .iastore, 1, 0), (163, .iinc 2 1, 3, 0)]
theorem mk81_7 : (mc81_7).all (m_okI prog_8_method_16_code) = true := by decide +kernel
def mc81_8 : List (Nat × Instr × Nat × Nat) := [(166, .iinc 4 1, 3, 0), (169, .goto (-97), 3, 72), (172, .iinc 3 1, 3, 0), (175, .goto (-111), 3, 64), (178, .return_, 1, 0)]
theorem mk81_8 : (mc81_8).all (m_okI prog_8_method_16_code) = true := by decide +kernel
def mc81 : List (Nat × List (Nat × Instr × Nat × Nat)) := [(18, mc81_0), (40, mc81_1), (63, mc81_2), (81, mc81_3), (105, mc81_4), (128, mc81_5), (149, mc81_6), (164, mc81_7), (179, mc81_8)]
theorem mk81 : ∀ c ∈ mc81, c.2.all (m_okI prog_8_method_16_code) = true := by
  simp only [mc81, List.forall_mem_cons, List.not_mem_nil, false_implies, implies_true, and_true]
  exact ⟨mk81_0, mk81_1, mk81_2, mk81_3, mk81_4, mk81_5, mk81_6, mk81_7, mk81_8⟩
/-- EscapeCellsModel.learn()V -/
def mc82_0 : List (Nat × Instr × Nat × Nat) := [(0, .iconst 0, 1, 0), (1, .istore_n 1, 1, 0), (2, .iload_n 1, 1, 0), (3, .bipush 8, 2, 0), (5, .if_icmp .gt 21, 3, 26), (8, .aload_n 0, 1, 0), (9, .getfield 94, 3, 0), (12, .ifCond .ne 14, 3, 26), (15, .aload_n 0, 1, 0), (16, .iload_n 1, 1, 0), (17, .invokevirtual 128, 3, 0), (20, .iinc 1 1, 3, 0)]
theorem mk82_0 : (mc82_0).all (m_okI prog_8_method_17_code) = true := by decide +kernel
def mc82_1 : List (Nat × Instr × Nat × Nat) := [(23, .goto (-21), 3, 2), (26, .aload_n 0, 1, 0), (27, .iconst 1, 1, 0), (28, .putfield 94, 3, 0), (31, .return_, 1, 0)]
theorem mk82_1 : (mc82_1).all (m_okI prog_8_method_17_code) = true := by decide +kernel
def mc82 : List (Nat × List (Nat × Instr × Nat × Nat)) := [(21, mc82_0), (32, mc82_1)]
theorem mk82 : ∀ c ∈ mc82, c.2.all (m_okI prog_8_method_17_code) = true := by
  simp only [mc82, List.forall_mem_cons, List.not_mem_nil, false_implies, implies_true, and_true]
  exact ⟨mk82_0, mk82_1⟩
/-- EscapeCellsModel.numberOf(II)I -/
def mc83_0 : List (Nat × Instr × Nat × Nat) := [(0, .aload_n 0, 1, 0), (1, .getfield 38, 3, 0), (4, .sipush 576, 3, 0), (7, .iload_n 1, 1, 0), (8, .imul, 1, 0), (9, .iload_n 2, 1, 0), (10, .iadd, 1, 0), (11, .iaload, 1, 0), (12, .ireturn, 1, 0)]
theorem mk83_0 : (mc83_0).all (m_okI prog_8_method_18_code) = true := by decide +kernel
def mc83 : List (Nat × List (Nat × Instr × Nat × Nat)) := [(13, mc83_0)]
theorem mk83 : ∀ c ∈ mc83, c.2.all (m_okI prog_8_method_18_code) = true := by
  simp only [mc83, List.forall_mem_cons, List.not_mem_nil, false_implies, implies_true, and_true]
  exact mk83_0
/-- EscapeCellsModel.ways()I -/
def mc84_0 : List (Nat × Instr × Nat × Nat) := [(0, .aload_n 0, 1, 0), (1, .iconst 0, 1, 0), (2, .putfield 88, 3, 0), (5, .aload_n 0, 1, 0), (6, .invokevirtual 132, 3, 0), (9, .iconst 0, 1, 0), (10, .istore_n 1, 1, 0), (11, .iconst 0, 1, 0), (12, .istore_n 2, 1, 0), (13, .iload_n 2, 1, 0), (14, .sipush 576, 3, 0), (17, .if_icmp .ge 27, 3, 44)]
theorem mk84_0 : (mc84_0).all (m_okI prog_8_method_19_code) = true := by decide +kernel
def mc84_1 : List (Nat × Instr × Nat × Nat) := [(20, .iload_n 1, 1, 0), (21, .aload_n 0, 1, 0), (22, .bipush 8, 2, 0), (24, .iload_n 2, 1, 0), (25, .invokevirtual 135, 3, 0), (28, .ifCond .lt 7, 3, 35), (31, .iconst 1, 1, 0), (32, .goto 4, 3, 36), (35, .iconst 0, 1, 0), (36, .iadd, 1, 0), (37, .istore_n 1, 1, 0), (38, .iinc 2 1, 3, 0)]
theorem mk84_1 : (mc84_1).all (m_okI prog_8_method_19_code) = true := by decide +kernel
def mc84_2 : List (Nat × Instr × Nat × Nat) := [(41, .goto (-28), 3, 13), (44, .iload_n 1, 1, 0), (45, .ireturn, 1, 0)]
theorem mk84_2 : (mc84_2).all (m_okI prog_8_method_19_code) = true := by decide +kernel
def mc84 : List (Nat × List (Nat × Instr × Nat × Nat)) := [(18, mc84_0), (39, mc84_1), (46, mc84_2)]
theorem mk84 : ∀ c ∈ mc84, c.2.all (m_okI prog_8_method_19_code) = true := by
  simp only [mc84, List.forall_mem_cons, List.not_mem_nil, false_implies, implies_true, and_true]
  exact ⟨mk84_0, mk84_1, mk84_2⟩
/-- EscapeCellsModel.walk(III)I -/
def mc85_0 : List (Nat × Instr × Nat × Nat) := [(0, .aload_n 0, 1, 0), (1, .aload_n 0, 1, 0), (2, .iload_n 1, 1, 0), (3, .iload_n 2, 1, 0), (4, .invokevirtual 101, 3, 0), (7, .ifCond .eq 16, 3, 23), (10, .iload_n 3, 1, 0), (11, .iconst (-1), 1, 0), (12, .if_icmp .lt 11, 3, 23), (15, .iload_n 3, 1, 0), (16, .aload_n 0, 1, 0), (17, .getfield 119, 3, 0)]
theorem mk85_0 : (mc85_0).all (m_okI prog_8_method_20_code) = true := by decide +kernel
def mc85_1 : List (Nat × Instr × Nat × Nat) := [(20, .if_icmp .lt 7, 3, 27), (23, .iconst 1, 1, 0), (24, .goto 4, 3, 28), (27, .iconst 0, 1, 0), (28, .invokevirtual 113, 3, 0), (31, .ifCond .eq 5, 3, 36), (34, .iconst 0, 1, 0), (35, .ireturn, 1, 0), (36, .aload_n 0, 1, 0), (37, .invokevirtual 132, 3, 0), (40, .aload_n 0, 1, 0), (41, .iload_n 3, 1, 0)]
theorem mk85_1 : (mc85_1).all (m_okI prog_8_method_20_code) = true := by decide +kernel
def mc85_2 : List (Nat × Instr × Nat × Nat) := [(42, .ifCond .ge 8, 3, 50), (45, .bipush 8, 2, 0), (47, .goto 4, 3, 51), (50, .iload_n 3, 1, 0), (51, .iload_n 1, 1, 0), (52, .iload_n 2, 1, 0), (53, .invokestatic 105, 3, 0), (56, .invokevirtual 135, 3, 0), (59, .ireturn, 1, 0)]
theorem mk85_2 : (mc85_2).all (m_okI prog_8_method_20_code) = true := by decide +kernel
def mc85 : List (Nat × List (Nat × Instr × Nat × Nat)) := [(18, mc85_0), (42, mc85_1), (60, mc85_2)]
theorem mk85 : ∀ c ∈ mc85, c.2.all (m_okI prog_8_method_20_code) = true := by
  simp only [mc85, List.forall_mem_cons, List.not_mem_nil, false_implies, implies_true, and_true]
  exact ⟨mk85_0, mk85_1, mk85_2⟩
/-- EscapeCellsModel.goal(I)I -/
def mc86_0 : List (Nat × Instr × Nat × Nat) := [(0, .aload_n 0, 1, 0), (1, .getfield 35, 3, 0), (4, .iload_n 1, 1, 0), (5, .iaload, 1, 0), (6, .ifCond .lt 26, 3, 32), (9, .aload_n 0, 1, 0), (10, .aload_n 0, 1, 0), (11, .getfield 35, 3, 0), (14, .iload_n 1, 1, 0), (15, .iaload, 1, 0), (16, .aload_n 0, 1, 0), (17, .getfield 63, 3, 0)]
theorem mk86_0 : (mc86_0).all (m_okI prog_8_method_21_code) = true := by decide +kernel
def mc86_1 : List (Nat × Instr × Nat × Nat) := [(20, .iload_n 1, 1, 0), (21, .iaload, 1, 0), (22, .invokevirtual 135, 3, 0), (25, .ifCond .lt 7, 3, 32), (28, .iconst 1, 1, 0), (29, .goto 4, 3, 33), (32, .iconst 0, 1, 0), (33, .istore_n 2, 1, 0), (34, .iload_n 2, 1, 0), (35, .ifCond .eq 12, 3, 47), (38, .aload_n 0, 1, 0), (39, .getfield 35, 3, 0)]
theorem mk86_1 : (mc86_1).all (m_okI prog_8_method_21_code) = true := by decide +kernel
def mc86_2 : List (Nat × Instr × Nat × Nat) := [(42, .iload_n 1, 1, 0), (43, .iaload, 1, 0), (44, .goto 5, 3, 49), (47, .bipush 8, 2, 0), (49, .ireturn, 1, 0)]
theorem mk86_2 : (mc86_2).all (m_okI prog_8_method_21_code) = true := by decide +kernel
def mc86 : List (Nat × List (Nat × Instr × Nat × Nat)) := [(18, mc86_0), (40, mc86_1), (50, mc86_2)]
theorem mk86 : ∀ c ∈ mc86, c.2.all (m_okI prog_8_method_21_code) = true := by
  simp only [mc86, List.forall_mem_cons, List.not_mem_nil, false_implies, implies_true, and_true]
  exact ⟨mk86_0, mk86_1, mk86_2⟩
/-- EscapeCellsModel.isBarred(II)Z -/
def mc87_0 : List (Nat × Instr × Nat × Nat) := [(0, .aload_n 0, 1, 0), (1, .getfield 20, 3, 0), (4, .iload_n 1, 1, 0), (5, .iaload, 1, 0), (6, .ifCond .lt 17, 3, 23), (9, .aload_n 0, 1, 0), (10, .getfield 20, 3, 0), (13, .iload_n 1, 1, 0), (14, .iaload, 1, 0), (15, .iload_n 2, 1, 0), (16, .if_icmp .gt 7, 3, 23), (19, .iconst 1, 1, 0)]
theorem mk87_0 : (mc87_0).all (m_okI prog_8_method_22_code) = true := by decide +kernel
def mc87_1 : List (Nat × Instr × Nat × Nat) := [(20, .goto 4, 3, 24), (23, .iconst 0, 1, 0), (24, .ireturn, 1, 0)]
theorem mk87_1 : (mc87_1).all (m_okI prog_8_method_22_code) = true := by decide +kernel
def mc87 : List (Nat × List (Nat × Instr × Nat × Nat)) := [(20, mc87_0), (25, mc87_1)]
theorem mk87 : ∀ c ∈ mc87, c.2.all (m_okI prog_8_method_22_code) = true := by
  simp only [mc87, List.forall_mem_cons, List.not_mem_nil, false_implies, implies_true, and_true]
  exact ⟨mk87_0, mk87_1⟩
/-- EscapeCellsModel.maySteps(II)Z -/
def mc88_0 : List (Nat × Instr × Nat × Nat) := [(0, .aload_n 0, 1, 0), (1, .getfield 53, 3, 0), (4, .iload_n 1, 1, 0), (5, .iaload, 1, 0), (6, .ifCond .ne 12, 3, 18), (9, .aload_n 0, 1, 0), (10, .getfield 32, 3, 0), (13, .iload_n 1, 1, 0), (14, .iaload, 1, 0), (15, .goto 22, 3, 37), (18, .aload_n 0, 1, 0), (19, .getfield 57, 3, 0)]
theorem mk88_0 : (mc88_0).all (m_okI prog_8_method_23_code) = true := by decide +kernel
def mc88_1 : List (Nat × Instr × Nat × Nat) := [(22, .sipush 600, 3, 0), (25, .iload_n 1, 1, 0), (26, .imul, 1, 0), (27, .aload_n 0, 1, 0), (28, .getfield 53, 3, 0), (31, .iload_n 1, 1, 0), (32, .iaload, 1, 0), (33, .iadd, 1, 0), (34, .iconst 1, 1, 0), (35, .isub, 1, 0), (36, .iaload, 1, 0), (37, .istore_n 3, 1, 0)]
theorem mk88_1 : (mc88_1).all (m_okI prog_8_method_23_code) = true := by decide +kernel
def mc88_2 : List (Nat × Instr × Nat × Nat) := [(38, .iload_n 2, 1, 0), (39, .aload_n 0, 1, 0), (40, .getfield 32, 3, 0), (43, .iload_n 1, 1, 0), (44, .iaload, 1, 0), (45, .if_icmp .le 19, 3, 64), (48, .iload_n 2, 1, 0), (49, .iload_n 3, 1, 0), (50, .isub, 1, 0), (51, .aload_n 0, 1, 0), (52, .getfield 29, 3, 0), (55, .iload_n 1, 1, 0)]
theorem mk88_2 : (mc88_2).all (m_okI prog_8_method_23_code) = true := by decide +kernel
def mc88_3 : List (Nat × Instr × Nat × Nat) := [(56, .iaload, 1, 0), (57, .if_icmp .lt 7, 3, 64), (60, .iconst 1, 1, 0), (61, .goto 4, 3, 65), (64, .iconst 0, 1, 0), (65, .ireturn, 1, 0)]
theorem mk88_3 : (mc88_3).all (m_okI prog_8_method_23_code) = true := by decide +kernel
def mc88 : List (Nat × List (Nat × Instr × Nat × Nat)) := [(20, mc88_0), (38, mc88_1), (56, mc88_2), (66, mc88_3)]
theorem mk88 : ∀ c ∈ mc88, c.2.all (m_okI prog_8_method_23_code) = true := by
  simp only [mc88, List.forall_mem_cons, List.not_mem_nil, false_implies, implies_true, and_true]
  exact ⟨mk88_0, mk88_1, mk88_2, mk88_3⟩
/-- EscapeCellsModel.nextOne(I)I -/
def mc89_0 : List (Nat × Instr × Nat × Nat) := [(0, .iconst (-1), 1, 0), (1, .istore_n 2, 1, 0), (2, .iconst 0, 1, 0), (3, .istore_n 3, 1, 0), (4, .iconst 0, 1, 0), (5, .istore 4, 2, 0), (7, .iload 4, 2, 0), (9, .aload_n 0, 1, 0), (10, .getfield 91, 3, 0), (13, .if_icmp .ge 88, 3, 101), (16, .aload_n 0, 1, 0), (17, .getfield 44, 3, 0)]
theorem mk89_0 : (mc89_0).all (m_okI prog_8_method_24_code) = true := by decide +kernel
def mc89_1 : List (Nat × Instr × Nat × Nat) := [(20, .iload 4, 2, 0), (22, .iaload, 1, 0), (23, .ifCond .ne 72, 3, 95), (26, .aload_n 0, 1, 0), (27, .getfield 75, 3, 0), (30, .iload 4, 2, 0), (32, .baload, 1, 0), (33, .ifCond .ne 62, 3, 95), (36, .aload_n 0, 1, 0), (37, .iload 4, 2, 0), (39, .iload_n 1, 1, 0), (40, .invokevirtual 138, 3, 0)]
theorem mk89_1 : (mc89_1).all (m_okI prog_8_method_24_code) = true := by decide +kernel
def mc89_2 : List (Nat × Instr × Nat × Nat) := [(43, .ifCond .eq 52, 3, 95), (46, .aload_n 0, 1, 0), (47, .aload_n 0, 1, 0), (48, .iload 4, 2, 0), (50, .invokevirtual 141, 3, 0), (53, .aload_n 0, 1, 0), (54, .getfield 63, 3, 0), (57, .iload 4, 2, 0), (59, .iaload, 1, 0), (60, .invokevirtual 135, 3, 0), (63, .istore 5, 2, 0), (65, .iload 5, 2, 0)]
theorem mk89_2 : (mc89_2).all (m_okI prog_8_method_24_code) = true := by decide +kernel
def mc89_3 : List (Nat × Instr × Nat × Nat) := [(67, .ifCond .ge 8, 3, 75), (70, .ldc 145, 2, 0), (72, .goto 5, 3, 77), (75, .iload 5, 2, 0), (77, .istore 5, 2, 0), (79, .iload_n 2, 1, 0), (80, .ifCond .lt 9, 3, 89), (83, .iload 5, 2, 0), (85, .iload_n 3, 1, 0), (86, .if_icmp .ge 9, 3, 95), (89, .iload 4, 2, 0), (91, .istore_n 2, 1, 0)]
theorem mk89_3 : (mc89_3).all (m_okI prog_8_method_24_code) = true := by decide +kernel
def mc89_4 : List (Nat × Instr × Nat × Nat) := [(92, .iload 5, 2, 0), (94, .istore_n 3, 1, 0), (95, .iinc 4 1, 3, 0), (98, .goto (-91), 3, 7), (101, .iload_n 2, 1, 0), (102, .ireturn, 1, 0)]
theorem mk89_4 : (mc89_4).all (m_okI prog_8_method_24_code) = true := by decide +kernel
def mc89 : List (Nat × List (Nat × Instr × Nat × Nat)) := [(18, mc89_0), (41, mc89_1), (66, mc89_2), (92, mc89_3), (103, mc89_4)]
theorem mk89 : ∀ c ∈ mc89, c.2.all (m_okI prog_8_method_24_code) = true := by
  simp only [mc89, List.forall_mem_cons, List.not_mem_nil, false_implies, implies_true, and_true]
  exact ⟨mk89_0, mk89_1, mk89_2, mk89_3, mk89_4⟩
/-- EscapeCellsModel.go(II)V -/
def mc90_0 : List (Nat × Instr × Nat × Nat) := [(0, .aload_n 0, 1, 0), (1, .iload_n 1, 1, 0), (2, .invokevirtual 141, 3, 0), (5, .istore_n 3, 1, 0), (6, .aload_n 0, 1, 0), (7, .iload_n 3, 1, 0), (8, .aload_n 0, 1, 0), (9, .getfield 63, 3, 0), (12, .iload_n 1, 1, 0), (13, .iaload, 1, 0), (14, .invokevirtual 135, 3, 0), (17, .istore 4, 2, 0)]
theorem mk90_0 : (mc90_0).all (m_okI prog_8_method_25_code) = true := by decide +kernel
def mc90_1 : List (Nat × Instr × Nat × Nat) := [(19, .iconst 0, 1, 0), (20, .istore 5, 2, 0), (22, .iload 5, 2, 0), (24, .iconst 4, 1, 0), (25, .if_icmp .ge 135, 3, 160), (28, .aload_n 0, 1, 0), (29, .aload_n 0, 1, 0), (30, .getfield 63, 3, 0), (33, .iload_n 1, 1, 0), (34, .iaload, 1, 0), (35, .iload 5, 2, 0), (37, .invokevirtual 125, 3, 0)]
theorem mk90_1 : (mc90_1).all (m_okI prog_8_method_25_code) = true := by decide +kernel
def mc90_2 : List (Nat × Instr × Nat × Nat) := [(40, .istore 6, 2, 0), (42, .iload 6, 2, 0), (44, .ifCond .lt 29, 3, 73), (47, .aload_n 0, 1, 0), (48, .iload_n 3, 1, 0), (49, .iload 6, 2, 0), (51, .invokevirtual 135, 3, 0), (54, .ifCond .lt 19, 3, 73), (57, .aload_n 0, 1, 0), (58, .iload_n 3, 1, 0), (59, .iload 6, 2, 0), (61, .invokevirtual 135, 3, 0)]
theorem mk90_2 : (mc90_2).all (m_okI prog_8_method_25_code) = true := by decide +kernel
def mc90_3 : List (Nat × Instr × Nat × Nat) := [(64, .iload 4, 2, 0), (66, .if_icmp .ge 7, 3, 73), (69, .iconst 1, 1, 0), (70, .goto 4, 3, 74), (73, .iconst 0, 1, 0), (74, .istore 7, 2, 0), (76, .iload 7, 2, 0), (78, .ifCond .eq 76, 3, 154), (81, .aload_n 0, 1, 0), (82, .getfield 7, 3, 0), (85, .iload 6, 2, 0), (87, .baload, 1, 0)]
theorem mk90_3 : (mc90_3).all (m_okI prog_8_method_25_code) = true := by decide +kernel
def mc90_4 : List (Nat × Instr × Nat × Nat) := [(88, .ifCond .ne 66, 3, 154), (91, .aload_n 0, 1, 0), (92, .getfield 66, 3, 0), (95, .iload 6, 2, 0), (97, .iaload, 1, 0), (98, .ifCond .ge 56, 3, 154), (101, .aload_n 0, 1, 0), (102, .iload 6, 2, 0), (104, .iload_n 2, 1, 0), (105, .invokevirtual 146, 3, 0), (108, .ifCond .ne 46, 3, 154), (111, .aload_n 0, 1, 0)]
theorem mk90_4 : (mc90_4).all (m_okI prog_8_method_25_code) = true := by decide +kernel
def mc90_5 : List (Nat × Instr × Nat × Nat) := [(112, .getfield 17, 3, 0), (115, .iload 6, 2, 0), (117, .iaload, 1, 0), (118, .ifCond .eq 20, 3, 138), (121, .aload_n 0, 1, 0), (122, .getfield 72, 3, 0), (125, .iload 6, 2, 0), (127, .iaload, 1, 0), (128, .aload_n 0, 1, 0), (129, .getfield 17, 3, 0), (132, .iload 6, 2, 0), (134, .iaload, 1, 0)]
theorem mk90_5 : (mc90_5).all (m_okI prog_8_method_25_code) = true := by decide +kernel
def mc90_6 : List (Nat × Instr × Nat × Nat) := [(135, .if_icmp .ge 19, 3, 154), (138, .aload_n 0, 1, 0), (139, .iload_n 1, 1, 0), (140, .iload_n 2, 1, 0), (141, .iload 6, 2, 0), (143, .aload_n 0, 1, 0), (144, .iload_n 3, 1, 0), (145, .iload 6, 2, 0), (147, .invokevirtual 122, 3, 0), (150, .invokevirtual 149, 3, 0), (153, .return_, 1, 0), (154, .iinc 5 1, 3, 0)]
theorem mk90_6 : (mc90_6).all (m_okI prog_8_method_25_code) = true := by decide +kernel
def mc90_7 : List (Nat × Instr × Nat × Nat) := [(157, .goto (-135), 3, 22), (160, .return_, 1, 0)]
theorem mk90_7 : (mc90_7).all (m_okI prog_8_method_25_code) = true := by decide +kernel
def mc90 : List (Nat × List (Nat × Instr × Nat × Nat)) := [(18, mc90_0), (38, mc90_1), (62, mc90_2), (88, mc90_3), (112, mc90_4), (135, mc90_5), (155, mc90_6), (161, mc90_7)]
theorem mk90 : ∀ c ∈ mc90, c.2.all (m_okI prog_8_method_25_code) = true := by
  simp only [mc90, List.forall_mem_cons, List.not_mem_nil, false_implies, implies_true, and_true]
  exact ⟨mk90_0, mk90_1, mk90_2, mk90_3, mk90_4, mk90_5, mk90_6, mk90_7⟩
/-- EscapeCellsModel.step(IIIZ)V -/
def mc91_0 : List (Nat × Instr × Nat × Nat) := [(0, .aload_n 0, 1, 0), (1, .getfield 66, 3, 0), (4, .aload_n 0, 1, 0), (5, .getfield 63, 3, 0), (8, .iload_n 1, 1, 0), (9, .iaload, 1, 0), (10, .iconst (-1), 1, 0), (11, .iastore, 1, 0), (12, .aload_n 0, 1, 0), (13, .getfield 72, 3, 0), (16, .iload_n 3, 1, 0), (17, .dup2, 1, 0)]
theorem mk91_0 : (mc91_0).all (m_okI prog_8_method_26_code) = true := by decide +kernel
def mc91_1 : List (Nat × Instr × Nat × Nat) := [(18, .iaload, 1, 0), (19, .iconst 1, 1, 0), (20, .iadd, 1, 0), (21, .iastore, 1, 0), (22, .aload_n 0, 1, 0), (23, .getfield 69, 3, 0), (26, .iload_n 3, 1, 0), (27, .dup2, 1, 0), (28, .iaload, 1, 0), (29, .iconst 1, 1, 0), (30, .iadd, 1, 0), (31, .iastore, 1, 0)]
theorem mk91_1 : (mc91_1).all (m_okI prog_8_method_26_code) = true := by decide +kernel
def mc91_2 : List (Nat × Instr × Nat × Nat) := [(32, .aload_n 0, 1, 0), (33, .getfield 57, 3, 0), (36, .sipush 600, 3, 0), (39, .iload_n 1, 1, 0), (40, .imul, 1, 0), (41, .aload_n 0, 1, 0), (42, .getfield 53, 3, 0), (45, .iload_n 1, 1, 0), (46, .iaload, 1, 0), (47, .iadd, 1, 0), (48, .iload_n 2, 1, 0), (49, .iastore, 1, 0)]
theorem mk91_2 : (mc91_2).all (m_okI prog_8_method_26_code) = true := by decide +kernel
def mc91_3 : List (Nat × Instr × Nat × Nat) := [(50, .aload_n 0, 1, 0), (51, .getfield 60, 3, 0), (54, .sipush 600, 3, 0), (57, .iload_n 1, 1, 0), (58, .imul, 1, 0), (59, .aload_n 0, 1, 0), (60, .getfield 53, 3, 0), (63, .iload_n 1, 1, 0), (64, .iaload, 1, 0), (65, .iadd, 1, 0), (66, .iload_n 3, 1, 0), (67, .iastore, 1, 0)]
theorem mk91_3 : (mc91_3).all (m_okI prog_8_method_26_code) = true := by decide +kernel
def mc91_4 : List (Nat × Instr × Nat × Nat) := [(68, .aload_n 0, 1, 0), (69, .getfield 53, 3, 0), (72, .iload_n 1, 1, 0), (73, .dup2, 1, 0), (74, .iaload, 1, 0), (75, .iconst 1, 1, 0), (76, .iadd, 1, 0), (77, .iastore, 1, 0), (78, .iload 4, 2, 0), (80, .ifCond .eq 39, 3, 119), (83, .aload_n 0, 1, 0), (84, .getfield 44, 3, 0)]
theorem mk91_4 : (mc91_4).all (m_okI prog_8_method_26_code) = true := by decide +kernel
def mc91_5 : List (Nat × Instr × Nat × Nat) := [(87, .iload_n 1, 1, 0), (88, .iconst 1, 1, 0), (89, .iastore, 1, 0), (90, .aload_n 0, 1, 0), (91, .getfield 47, 3, 0), (94, .iload_n 1, 1, 0), (95, .iload_n 2, 1, 0), (96, .iastore, 1, 0), (97, .aload_n 0, 1, 0), (98, .getfield 50, 3, 0), (101, .iload_n 1, 1, 0), (102, .aload_n 0, 1, 0)]
theorem mk91_5 : (mc91_5).all (m_okI prog_8_method_26_code) = true := by decide +kernel
def mc91_6 : List (Nat × Instr × Nat × Nat) := [(103, .getfield 13, 3, 0), (106, .iload_n 3, 1, 0), (107, .iaload, 1, 0), (108, .iastore, 1, 0), (109, .aload_n 0, 1, 0), (110, .getfield 63, 3, 0), (113, .iload_n 1, 1, 0), (114, .iconst (-1), 1, 0), (115, .iastore, 1, 0), (116, .goto 17, 3, 133), (119, .aload_n 0, 1, 0), (120, .getfield 63, 3, 0)]
theorem mk91_6 : (mc91_6).all (m_okI prog_8_method_26_code) = true := by decide +kernel
def mc91_7 : List (Nat × Instr × Nat × Nat) := [(123, .iload_n 1, 1, 0), (124, .iload_n 3, 1, 0), (125, .iastore, 1, 0), (126, .aload_n 0, 1, 0), (127, .getfield 66, 3, 0), (130, .iload_n 3, 1, 0), (131, .iload_n 1, 1, 0), (132, .iastore, 1, 0), (133, .return_, 1, 0)]
theorem mk91_7 : (mc91_7).all (m_okI prog_8_method_26_code) = true := by decide +kernel
def mc91 : List (Nat × List (Nat × Instr × Nat × Nat)) := [(18, mc91_0), (32, mc91_1), (50, mc91_2), (68, mc91_3), (85, mc91_4), (103, mc91_5), (121, mc91_6), (134, mc91_7)]
theorem mk91 : ∀ c ∈ mc91, c.2.all (m_okI prog_8_method_26_code) = true := by
  simp only [mc91, List.forall_mem_cons, List.not_mem_nil, false_implies, implies_true, and_true]
  exact ⟨mk91_0, mk91_1, mk91_2, mk91_3, mk91_4, mk91_5, mk91_6, mk91_7⟩
