/-- EscapeCells.walk(III)I -/
def mc56_0 : List (Nat × Instr × Nat × Nat) := [(0, .aload_n 0, 1, 0), (1, .getfield 18, 3, 0), (4, .iload_n 1, 1, 0), (5, .iload_n 2, 1, 0), (6, .invokevirtual 64, 3, 0), (9, .istore 4, 2, 0), (11, .iload 4, 2, 0), (13, .iconst (-1), 1, 0), (14, .if_icmp .eq 14, 3, 28), (17, .aload_n 0, 1, 0), (18, .getfield 18, 3, 0), (21, .iload_n 3, 1, 0)]
theorem mk56_0 : (mc56_0).all (m_okI prog_1_method_9_code) = true := by decide +kernel
def mc56_1 : List (Nat × Instr × Nat × Nat) := [(22, .invokevirtual 146, 3, 0), (25, .ifCond .ne 13, 3, 38), (28, .new 68, 3, 0), (31, .dup, 1, 0), (32, .ldc 158, 2, 0), (34, .invokespecial 72, 3, 0), (37, .athrow, 1, 0), (38, .aload_n 0, 1, 0), (39, .getfield 27, 3, 0), (42, .iload_n 3, 1, 0), (43, .invokevirtual 154, 3, 0), (46, .iload 4, 2, 0)]
theorem mk56_1 : (mc56_1).all (m_okI prog_1_method_9_code) = true := by decide +kernel
def mc56_2 : List (Nat × Instr × Nat × Nat) := [(48, .iaload, 1, 0), (49, .ireturn, 1, 0)]
theorem mk56_2 : (mc56_2).all (m_okI prog_1_method_9_code) = true := by decide +kernel
def mc56 : List (Nat × List (Nat × Instr × Nat × Nat)) := [(22, mc56_0), (47, mc56_1), (50, mc56_2)]
theorem mk56 : ∀ c ∈ mc56, c.2.all (m_okI prog_1_method_9_code) = true := by
  simp only [mc56, List.forall_mem_cons, List.not_mem_nil, false_implies, implies_true, and_true]
  exact ⟨mk56_0, mk56_1, mk56_2⟩
/-- EscapeCells.run()I -/
def mc57_0 : List (Nat × Instr × Nat × Nat) := [(0, .aload_n 0, 1, 0), (1, .getfield 60, 3, 0), (4, .ifCond .ne 22, 3, 26), (7, .aload_n 0, 1, 0), (8, .getfield 27, 3, 0), (11, .invokevirtual 160, 3, 0), (14, .aload_n 0, 1, 0), (15, .getfield 49, 3, 0), (18, .invokevirtual 163, 3, 0), (21, .aload_n 0, 1, 0), (22, .iconst 1, 1, 0), (23, .putfield 60, 3, 0)]
theorem mk57_0 : (mc57_0).all (m_okI prog_1_method_10_code) = true := by decide +kernel
def mc57_1 : List (Nat × Instr × Nat × Nat) := [(26, .aload_n 0, 1, 0), (27, .getfield 49, 3, 0), (30, .getfield 166, 3, 0), (33, .ireturn, 1, 0)]
theorem mk57_1 : (mc57_1).all (m_okI prog_1_method_10_code) = true := by decide +kernel
def mc57 : List (Nat × List (Nat × Instr × Nat × Nat)) := [(24, mc57_0), (34, mc57_1)]
theorem mk57 : ∀ c ∈ mc57, c.2.all (m_okI prog_1_method_10_code) = true := by
  simp only [mc57, List.forall_mem_cons, List.not_mem_nil, false_implies, implies_true, and_true]
  exact ⟨mk57_0, mk57_1⟩
/-- EscapeCells.told(II)I -/
def mc58_0 : List (Nat × Instr × Nat × Nat) := [(0, .aload_n 0, 1, 0), (1, .getfield 40, 3, 0), (4, .iload_n 1, 1, 0), (5, .invokevirtual 143, 3, 0), (8, .ifCond .eq 12, 3, 20), (11, .iload_n 2, 1, 0), (12, .iconst 0, 1, 0), (13, .iconst 3, 1, 0), (14, .invokestatic 97, 3, 0), (17, .ifCond .ne 13, 3, 30), (20, .new 68, 3, 0), (23, .dup, 1, 0)]
theorem mk58_0 : (mc58_0).all (m_okI prog_1_method_11_code) = true := by decide +kernel
def mc58_1 : List (Nat × Instr × Nat × Nat) := [(24, .ldc 169, 2, 0), (26, .invokespecial 72, 3, 0), (29, .athrow, 1, 0), (30, .aload_n 0, 1, 0), (31, .getfield 60, 3, 0), (34, .ifCond .ne 13, 3, 47), (37, .new 79, 3, 0), (40, .dup, 1, 0), (41, .ldc 171, 2, 0), (43, .invokespecial 83, 3, 0), (46, .athrow, 1, 0), (47, .iload_n 2, 1, 0)]
theorem mk58_1 : (mc58_1).all (m_okI prog_1_method_11_code) = true := by decide +kernel
def mc58_2 : List (Nat × Instr × Nat × Nat) := [(48, .tableswitch 58 0 2 #[28, 38, 48], 28, 0), (76, .aload_n 0, 1, 0), (77, .getfield 49, 3, 0), (80, .getfield 173, 3, 0), (83, .iload_n 1, 1, 0), (84, .iaload, 1, 0), (85, .ireturn, 1, 0), (86, .aload_n 0, 1, 0), (87, .getfield 49, 3, 0), (90, .getfield 176, 3, 0), (93, .iload_n 1, 1, 0), (94, .iaload, 1, 0)]
theorem mk58_2 : (mc58_2).all (m_okI prog_1_method_11_code) = true := by decide +kernel
def mc58_3 : List (Nat × Instr × Nat × Nat) := [(95, .ireturn, 1, 0), (96, .aload_n 0, 1, 0), (97, .getfield 49, 3, 0), (100, .getfield 179, 3, 0), (103, .iload_n 1, 1, 0), (104, .iaload, 1, 0), (105, .ireturn, 1, 0), (106, .aload_n 0, 1, 0), (107, .getfield 49, 3, 0), (110, .getfield 182, 3, 0), (113, .iload_n 1, 1, 0), (114, .iaload, 1, 0)]
theorem mk58_3 : (mc58_3).all (m_okI prog_1_method_11_code) = true := by decide +kernel
def mc58_4 : List (Nat × Instr × Nat × Nat) := [(115, .ireturn, 1, 0)]
theorem mk58_4 : (mc58_4).all (m_okI prog_1_method_11_code) = true := by decide +kernel
def mc58 : List (Nat × List (Nat × Instr × Nat × Nat)) := [(24, mc58_0), (48, mc58_1), (95, mc58_2), (115, mc58_3), (116, mc58_4)]
theorem mk58 : ∀ c ∈ mc58, c.2.all (m_okI prog_1_method_11_code) = true := by
  simp only [mc58, List.forall_mem_cons, List.not_mem_nil, false_implies, implies_true, and_true]
  exact ⟨mk58_0, mk58_1, mk58_2, mk58_3, mk58_4⟩
/-- EscapeCells.at(III)I -/
def mc59_0 : List (Nat × Instr × Nat × Nat) := [(0, .aload_n 0, 1, 0), (1, .getfield 40, 3, 0), (4, .iload_n 1, 1, 0), (5, .invokevirtual 143, 3, 0), (8, .ifCond .eq 23, 3, 31), (11, .iload_n 2, 1, 0), (12, .iconst 0, 1, 0), (13, .sipush 3600, 3, 0), (16, .invokestatic 97, 3, 0), (19, .ifCond .eq 12, 3, 31), (22, .iload_n 3, 1, 0), (23, .iconst 0, 1, 0)]
theorem mk59_0 : (mc59_0).all (m_okI prog_1_method_12_code) = true := by decide +kernel
def mc59_1 : List (Nat × Instr × Nat × Nat) := [(24, .iconst 1, 1, 0), (25, .invokestatic 97, 3, 0), (28, .ifCond .ne 13, 3, 41), (31, .new 68, 3, 0), (34, .dup, 1, 0), (35, .ldc 185, 2, 0), (37, .invokespecial 72, 3, 0), (40, .athrow, 1, 0), (41, .aload_n 0, 1, 0), (42, .getfield 60, 3, 0), (45, .ifCond .ne 13, 3, 58), (48, .new 79, 3, 0)]
theorem mk59_1 : (mc59_1).all (m_okI prog_1_method_12_code) = true := by decide +kernel
def mc59_2 : List (Nat × Instr × Nat × Nat) := [(51, .dup, 1, 0), (52, .ldc 171, 2, 0), (54, .invokespecial 83, 3, 0), (57, .athrow, 1, 0), (58, .aload_n 0, 1, 0), (59, .getfield 49, 3, 0), (62, .iload_n 1, 1, 0), (63, .iload_n 2, 1, 0), (64, .invokevirtual 187, 3, 0), (67, .istore 4, 2, 0), (69, .iload 4, 2, 0), (71, .iconst (-1), 1, 0)]
theorem mk59_2 : (mc59_2).all (m_okI prog_1_method_12_code) = true := by decide +kernel
def mc59_3 : List (Nat × Instr × Nat × Nat) := [(72, .if_icmp .ne 5, 3, 77), (75, .iconst (-1), 1, 0), (76, .ireturn, 1, 0), (77, .iload_n 3, 1, 0), (78, .ifCond .ne 16, 3, 94), (81, .aload_n 0, 1, 0), (82, .getfield 18, 3, 0), (85, .getfield 190, 3, 0), (88, .iload 4, 2, 0), (90, .iaload, 1, 0), (91, .goto 13, 3, 104), (94, .aload_n 0, 1, 0)]
theorem mk59_3 : (mc59_3).all (m_okI prog_1_method_12_code) = true := by decide +kernel
def mc59_4 : List (Nat × Instr × Nat × Nat) := [(95, .getfield 18, 3, 0), (98, .getfield 193, 3, 0), (101, .iload 4, 2, 0), (103, .iaload, 1, 0), (104, .ireturn, 1, 0)]
theorem mk59_4 : (mc59_4).all (m_okI prog_1_method_12_code) = true := by decide +kernel
def mc59 : List (Nat × List (Nat × Instr × Nat × Nat)) := [(24, mc59_0), (49, mc59_1), (72, mc59_2), (95, mc59_3), (105, mc59_4)]
theorem mk59 : ∀ c ∈ mc59, c.2.all (m_okI prog_1_method_12_code) = true := by
  simp only [mc59, List.forall_mem_cons, List.not_mem_nil, false_implies, implies_true, and_true]
  exact ⟨mk59_0, mk59_1, mk59_2, mk59_3, mk59_4⟩
/-- EscapeCells.through(II)I -/
def mc60_0 : List (Nat × Instr × Nat × Nat) := [(0, .aload_n 0, 1, 0), (1, .getfield 18, 3, 0), (4, .iload_n 1, 1, 0), (5, .iload_n 2, 1, 0), (6, .invokevirtual 64, 3, 0), (9, .istore_n 3, 1, 0), (10, .iload_n 3, 1, 0), (11, .iconst (-1), 1, 0), (12, .if_icmp .ne 13, 3, 25), (15, .new 68, 3, 0), (18, .dup, 1, 0), (19, .ldc 70, 2, 0)]
theorem mk60_0 : (mc60_0).all (m_okI prog_1_method_13_code) = true := by decide +kernel
def mc60_1 : List (Nat × Instr × Nat × Nat) := [(21, .invokespecial 72, 3, 0), (24, .athrow, 1, 0), (25, .aload_n 0, 1, 0), (26, .getfield 60, 3, 0), (29, .ifCond .ne 13, 3, 42), (32, .new 79, 3, 0), (35, .dup, 1, 0), (36, .ldc 171, 2, 0), (38, .invokespecial 83, 3, 0), (41, .athrow, 1, 0), (42, .aload_n 0, 1, 0), (43, .getfield 49, 3, 0)]
theorem mk60_1 : (mc60_1).all (m_okI prog_1_method_13_code) = true := by decide +kernel
def mc60_2 : List (Nat × Instr × Nat × Nat) := [(46, .getfield 196, 3, 0), (49, .iload_n 3, 1, 0), (50, .iaload, 1, 0), (51, .ireturn, 1, 0)]
theorem mk60_2 : (mc60_2).all (m_okI prog_1_method_13_code) = true := by decide +kernel
def mc60 : List (Nat × List (Nat × Instr × Nat × Nat)) := [(20, mc60_0), (44, mc60_1), (52, mc60_2)]
theorem mk60 : ∀ c ∈ mc60, c.2.all (m_okI prog_1_method_13_code) = true := by
  simp only [mc60, List.forall_mem_cons, List.not_mem_nil, false_implies, implies_true, and_true]
  exact ⟨mk60_0, mk60_1, mk60_2⟩
/-- EscapeCells.left(I)I -/
def mc61_0 : List (Nat × Instr × Nat × Nat) := [(0, .iload_n 1, 1, 0), (1, .iconst 0, 1, 0), (2, .sipush 3600, 3, 0), (5, .invokestatic 97, 3, 0), (8, .ifCond .ne 13, 3, 21), (11, .new 68, 3, 0), (14, .dup, 1, 0), (15, .ldc 199, 2, 0), (17, .invokespecial 72, 3, 0), (20, .athrow, 1, 0), (21, .aload_n 0, 1, 0), (22, .getfield 60, 3, 0)]
theorem mk61_0 : (mc61_0).all (m_okI prog_1_method_14_code) = true := by decide +kernel
def mc61_1 : List (Nat × Instr × Nat × Nat) := [(25, .ifCond .ne 13, 3, 38), (28, .new 79, 3, 0), (31, .dup, 1, 0), (32, .ldc 171, 2, 0), (34, .invokespecial 83, 3, 0), (37, .athrow, 1, 0), (38, .aload_n 0, 1, 0), (39, .getfield 49, 3, 0), (42, .iload_n 1, 1, 0), (43, .invokevirtual 201, 3, 0), (46, .ireturn, 1, 0)]
theorem mk61_1 : (mc61_1).all (m_okI prog_1_method_14_code) = true := by decide +kernel
def mc61 : List (Nat × List (Nat × Instr × Nat × Nat)) := [(23, mc61_0), (47, mc61_1)]
theorem mk61 : ∀ c ∈ mc61, c.2.all (m_okI prog_1_method_14_code) = true := by
  simp only [mc61, List.forall_mem_cons, List.not_mem_nil, false_implies, implies_true, and_true]
  exact ⟨mk61_0, mk61_1⟩
/-- EscapeCells.turns()I -/
def mc62_0 : List (Nat × Instr × Nat × Nat) := [(0, .aload_n 0, 1, 0), (1, .getfield 56, 3, 0), (4, .aload_n 0, 1, 0), (5, .getfield 27, 3, 0), (8, .iconst (-1), 1, 0), (9, .invokevirtual 154, 3, 0), (12, .invokevirtual 204, 3, 0), (15, .ireturn, 1, 0)]
theorem mk62_0 : (mc62_0).all (m_okI prog_1_method_15_code) = true := by decide +kernel
def mc62 : List (Nat × List (Nat × Instr × Nat × Nat)) := [(16, mc62_0)]
theorem mk62 : ∀ c ∈ mc62, c.2.all (m_okI prog_1_method_15_code) = true := by
  simp only [mc62, List.forall_mem_cons, List.not_mem_nil, false_implies, implies_true, and_true]
  exact mk62_0
/-- EscapeCells.signs()I -/
def mc63_0 : List (Nat × Instr × Nat × Nat) := [(0, .aload_n 0, 1, 0), (1, .getfield 56, 3, 0), (4, .aload_n 0, 1, 0), (5, .getfield 27, 3, 0), (8, .iconst (-1), 1, 0), (9, .invokevirtual 154, 3, 0), (12, .invokevirtual 208, 3, 0), (15, .ireturn, 1, 0)]
theorem mk63_0 : (mc63_0).all (m_okI prog_1_method_16_code) = true := by decide +kernel
def mc63 : List (Nat × List (Nat × Instr × Nat × Nat)) := [(16, mc63_0)]
theorem mk63 : ∀ c ∈ mc63, c.2.all (m_okI prog_1_method_16_code) = true := by
  simp only [mc63, List.forall_mem_cons, List.not_mem_nil, false_implies, implies_true, and_true]
  exact mk63_0
/-- EscapeCells.sideOf(I)I -/
def mc64_0 : List (Nat × Instr × Nat × Nat) := [(0, .iconst 2, 1, 0), (1, .bipush 24, 2, 0), (3, .iload_n 0, 1, 0), (4, .invokestatic 211, 3, 0), (7, .invokestatic 216, 3, 0), (10, .ireturn, 1, 0)]
theorem mk64_0 : (mc64_0).all (m_okI prog_1_method_17_code) = true := by decide +kernel
def mc64 : List (Nat × List (Nat × Instr × Nat × Nat)) := [(11, mc64_0)]
theorem mk64 : ∀ c ∈ mc64, c.2.all (m_okI prog_1_method_17_code) = true := by
  simp only [mc64, List.forall_mem_cons, List.not_mem_nil, false_implies, implies_true, and_true]
  exact mk64_0
/-- EscapeCells.isWithin(III)Z -/
def mc65_0 : List (Nat × Instr × Nat × Nat) := [(0, .iload_n 0, 1, 0), (1, .iload_n 1, 1, 0), (2, .if_icmp .lt 12, 3, 14), (5, .iload_n 0, 1, 0), (6, .iload_n 2, 1, 0), (7, .if_icmp .gt 7, 3, 14), (10, .iconst 1, 1, 0), (11, .goto 4, 3, 15), (14, .iconst 0, 1, 0), (15, .ireturn, 1, 0)]
theorem mk65_0 : (mc65_0).all (m_okI prog_1_method_18_code) = true := by decide +kernel
def mc65 : List (Nat × List (Nat × Instr × Nat × Nat)) := [(16, mc65_0)]
theorem mk65 : ∀ c ∈ mc65, c.2.all (m_okI prog_1_method_18_code) = true := by
  simp only [mc65, List.forall_mem_cons, List.not_mem_nil, false_implies, implies_true, and_true]
  exact mk65_0
/-- EscapeCellsModel.<init>(II)V -/
def mc66_0 : List (Nat × Instr × Nat × Nat) := [(0, .aload_n 0, 1, 0), (1, .invokespecial 1, 3, 0), (4, .aload_n 0, 1, 0), (5, .sipush 576, 3, 0), (8, .newarray .boolean, 2, 0), (10, .putfield 7, 3, 0), (13, .aload_n 0, 1, 0), (14, .sipush 576, 3, 0), (17, .newarray .int, 2, 0), (19, .putfield 13, 3, 0), (22, .aload_n 0, 1, 0), (23, .sipush 576, 3, 0)]
theorem mk66_0 : (mc66_0).all (m_okI prog_8_method_1_code) = true := by decide +kernel
def mc66_1 : List (Nat × Instr × Nat × Nat) := [(26, .newarray .int, 2, 0), (28, .putfield 17, 3, 0), (31, .aload_n 0, 1, 0), (32, .sipush 576, 3, 0), (35, .newarray .int, 2, 0), (37, .putfield 20, 3, 0), (40, .aload_n 0, 1, 0), (41, .bipush 8, 2, 0), (43, .newarray .int, 2, 0), (45, .putfield 23, 3, 0), (48, .aload_n 0, 1, 0), (49, .bipush 60, 2, 0)]
theorem mk66_1 : (mc66_1).all (m_okI prog_8_method_1_code) = true := by decide +kernel
def mc66_2 : List (Nat × Instr × Nat × Nat) := [(51, .newarray .int, 2, 0), (53, .putfield 26, 3, 0), (56, .aload_n 0, 1, 0), (57, .bipush 60, 2, 0), (59, .newarray .int, 2, 0), (61, .putfield 29, 3, 0), (64, .aload_n 0, 1, 0), (65, .bipush 60, 2, 0), (67, .newarray .int, 2, 0), (69, .putfield 32, 3, 0), (72, .aload_n 0, 1, 0), (73, .bipush 60, 2, 0)]
theorem mk66_2 : (mc66_2).all (m_okI prog_8_method_1_code) = true := by decide +kernel
def mc66_3 : List (Nat × Instr × Nat × Nat) := [(75, .newarray .int, 2, 0), (77, .putfield 35, 3, 0), (80, .aload_n 0, 1, 0), (81, .sipush 5184, 3, 0), (84, .newarray .int, 2, 0), (86, .putfield 38, 3, 0), (89, .aload_n 0, 1, 0), (90, .sipush 576, 3, 0), (93, .newarray .int, 2, 0), (95, .putfield 41, 3, 0), (98, .aload_n 0, 1, 0), (99, .bipush 60, 2, 0)]
theorem mk66_3 : (mc66_3).all (m_okI prog_8_method_1_code) = true := by decide +kernel
def mc66_4 : List (Nat × Instr × Nat × Nat) := [(101, .newarray .int, 2, 0), (103, .putfield 44, 3, 0), (106, .aload_n 0, 1, 0), (107, .bipush 60, 2, 0), (109, .newarray .int, 2, 0), (111, .putfield 47, 3, 0), (114, .aload_n 0, 1, 0), (115, .bipush 60, 2, 0), (117, .newarray .int, 2, 0), (119, .putfield 50, 3, 0), (122, .aload_n 0, 1, 0), (123, .bipush 60, 2, 0)]
theorem mk66_4 : (mc66_4).all (m_okI prog_8_method_1_code) = true := by decide +kernel
def mc66_5 : List (Nat × Instr × Nat × Nat) := [(125, .newarray .int, 2, 0), (127, .putfield 53, 3, 0), (130, .aload_n 0, 1, 0), (131, .ldc 56, 2, 0), (133, .newarray .int, 2, 0), (135, .putfield 57, 3, 0), (138, .aload_n 0, 1, 0), (139, .ldc 56, 2, 0), (141, .newarray .int, 2, 0), (143, .putfield 60, 3, 0), (146, .aload_n 0, 1, 0), (147, .bipush 60, 2, 0)]
theorem mk66_5 : (mc66_5).all (m_okI prog_8_method_1_code) = true := by decide +kernel
def mc66_6 : List (Nat × Instr × Nat × Nat) := [(149, .newarray .int, 2, 0), (151, .putfield 63, 3, 0), (154, .aload_n 0, 1, 0), (155, .sipush 576, 3, 0), (158, .newarray .int, 2, 0), (160, .putfield 66, 3, 0), (163, .aload_n 0, 1, 0), (164, .sipush 576, 3, 0), (167, .newarray .int, 2, 0), (169, .putfield 69, 3, 0), (172, .aload_n 0, 1, 0), (173, .sipush 576, 3, 0)]
theorem mk66_6 : (mc66_6).all (m_okI prog_8_method_1_code) = true := by decide +kernel
def mc66_7 : List (Nat × Instr × Nat × Nat) := [(176, .newarray .int, 2, 0), (178, .putfield 72, 3, 0), (181, .aload_n 0, 1, 0), (182, .bipush 60, 2, 0), (184, .newarray .boolean, 2, 0), (186, .putfield 75, 3, 0), (189, .aload_n 0, 1, 0), (190, .sipush 4096, 3, 0), (193, .newarray .int, 2, 0), (195, .putfield 78, 3, 0), (198, .aload_n 0, 1, 0), (199, .iload_n 1, 1, 0)]
theorem mk66_7 : (mc66_7).all (m_okI prog_8_method_1_code) = true := by decide +kernel
def mc66_8 : List (Nat × Instr × Nat × Nat) := [(200, .iconst 2, 1, 0), (201, .if_icmp .ge 7, 3, 208), (204, .iconst 2, 1, 0), (205, .goto 15, 3, 220), (208, .iload_n 1, 1, 0), (209, .bipush 24, 2, 0), (211, .if_icmp .le 8, 3, 219), (214, .bipush 24, 2, 0), (216, .goto 4, 3, 220), (219, .iload_n 1, 1, 0), (220, .putfield 81, 3, 0), (223, .aload_n 0, 1, 0)]
theorem mk66_8 : (mc66_8).all (m_okI prog_8_method_1_code) = true := by decide +kernel
def mc66_9 : List (Nat × Instr × Nat × Nat) := [(224, .iload_n 2, 1, 0), (225, .iconst 2, 1, 0), (226, .if_icmp .ge 7, 3, 233), (229, .iconst 2, 1, 0), (230, .goto 15, 3, 245), (233, .iload_n 2, 1, 0), (234, .bipush 24, 2, 0), (236, .if_icmp .le 8, 3, 244), (239, .bipush 24, 2, 0), (241, .goto 4, 3, 245), (244, .iload_n 2, 1, 0), (245, .putfield 85, 3, 0)]
theorem mk66_9 : (mc66_9).all (m_okI prog_8_method_1_code) = true := by decide +kernel
def mc66_10 : List (Nat × Instr × Nat × Nat) := [(248, .iconst 0, 1, 0), (249, .istore_n 3, 1, 0), (250, .iload_n 3, 1, 0), (251, .sipush 576, 3, 0), (254, .if_icmp .ge 23, 3, 277), (257, .aload_n 0, 1, 0), (258, .getfield 13, 3, 0), (261, .iload_n 3, 1, 0), (262, .iconst (-1), 1, 0), (263, .iastore, 1, 0), (264, .aload_n 0, 1, 0), (265, .getfield 20, 3, 0)]
theorem mk66_10 : (mc66_10).all (m_okI prog_8_method_1_code) = true := by decide +kernel
def mc66_11 : List (Nat × Instr × Nat × Nat) := [(268, .iload_n 3, 1, 0), (269, .iconst (-1), 1, 0), (270, .iastore, 1, 0), (271, .iinc 3 1, 3, 0), (274, .goto (-24), 3, 250), (277, .return_, 1, 0)]
theorem mk66_11 : (mc66_11).all (m_okI prog_8_method_1_code) = true := by decide +kernel
def mc66 : List (Nat × List (Nat × Instr × Nat × Nat)) := [(24, mc66_0), (50, mc66_1), (74, mc66_2), (100, mc66_3), (124, mc66_4), (148, mc66_5), (174, mc66_6), (200, mc66_7), (224, mc66_8), (246, mc66_9), (266, mc66_10), (278, mc66_11)]
theorem mk66 : ∀ c ∈ mc66, c.2.all (m_okI prog_8_method_1_code) = true := by
  simp only [mc66, List.forall_mem_cons, List.not_mem_nil, false_implies, implies_true, and_true]
  exact ⟨mk66_0, mk66_1, mk66_2, mk66_3, mk66_4, mk66_5, mk66_6, mk66_7, mk66_8, mk66_9, mk66_10, mk66_11⟩
/-- EscapeCellsModel.thrown()I -/
def mc67_0 : List (Nat × Instr × Nat × Nat) := [(0, .aload_n 0, 1, 0), (1, .getfield 88, 3, 0), (4, .ireturn, 1, 0)]
theorem mk67_0 : (mc67_0).all (m_okI prog_8_method_2_code) = true := by decide +kernel
def mc67 : List (Nat × List (Nat × Instr × Nat × Nat)) := [(5, mc67_0)]
theorem mk67 : ∀ c ∈ mc67, c.2.all (m_okI prog_8_method_2_code) = true := by
  simp only [mc67, List.forall_mem_cons, List.not_mem_nil, false_implies, implies_true, and_true]
  exact mk67_0
/-- EscapeCellsModel.refuses(I)Z -/
def mc68_0 : List (Nat × Instr × Nat × Nat) := [(0, .aload_n 0, 1, 0), (1, .iload_n 1, 1, 0), (2, .putfield 88, 3, 0), (5, .iload_n 1, 1, 0), (6, .ifCond .le 7, 3, 13), (9, .iconst 1, 1, 0), (10, .goto 4, 3, 14), (13, .iconst 0, 1, 0), (14, .ireturn, 1, 0)]
theorem mk68_0 : (mc68_0).all (m_okI prog_8_method_3_code) = true := by decide +kernel
def mc68 : List (Nat × List (Nat × Instr × Nat × Nat)) := [(15, mc68_0)]
theorem mk68 : ∀ c ∈ mc68, c.2.all (m_okI prog_8_method_3_code) = true := by
  simp only [mc68, List.forall_mem_cons, List.not_mem_nil, false_implies, implies_true, and_true]
  exact mk68_0
/-- EscapeCellsModel.isCell(II)Z -/
def mc69_0 : List (Nat × Instr × Nat × Nat) := [(0, .iload_n 1, 1, 0), (1, .ifCond .lt 27, 3, 28), (4, .iload_n 1, 1, 0), (5, .aload_n 0, 1, 0), (6, .getfield 81, 3, 0), (9, .if_icmp .ge 19, 3, 28), (12, .iload_n 2, 1, 0), (13, .ifCond .lt 15, 3, 28), (16, .iload_n 2, 1, 0), (17, .aload_n 0, 1, 0), (18, .getfield 85, 3, 0), (21, .if_icmp .ge 7, 3, 28)]
theorem mk69_0 : (mc69_0).all (m_okI prog_8_method_4_code) = true := by decide +kernel
def mc69_1 : List (Nat × Instr × Nat × Nat) := [(24, .iconst 1, 1, 0), (25, .goto 4, 3, 29), (28, .iconst 0, 1, 0), (29, .ireturn, 1, 0)]
theorem mk69_1 : (mc69_1).all (m_okI prog_8_method_4_code) = true := by decide +kernel
def mc69 : List (Nat × List (Nat × Instr × Nat × Nat)) := [(22, mc69_0), (30, mc69_1)]
theorem mk69 : ∀ c ∈ mc69, c.2.all (m_okI prog_8_method_4_code) = true := by
  simp only [mc69, List.forall_mem_cons, List.not_mem_nil, false_implies, implies_true, and_true]
  exact ⟨mk69_0, mk69_1⟩
/-- EscapeCellsModel.cell(II)I -/
def mc70_0 : List (Nat × Instr × Nat × Nat) := [(0, .bipush 24, 2, 0), (2, .iload_n 1, 1, 0), (3, .imul, 1, 0), (4, .iload_n 0, 1, 0), (5, .iadd, 1, 0), (6, .ireturn, 1, 0)]
theorem mk70_0 : (mc70_0).all (m_okI prog_8_method_5_code) = true := by decide +kernel
def mc70 : List (Nat × List (Nat × Instr × Nat × Nat)) := [(7, mc70_0)]
theorem mk70 : ∀ c ∈ mc70, c.2.all (m_okI prog_8_method_5_code) = true := by
  simp only [mc70, List.forall_mem_cons, List.not_mem_nil, false_implies, implies_true, and_true]
  exact mk70_0
/-- EscapeCellsModel.hasPerson(I)Z -/
def mc71_0 : List (Nat × Instr × Nat × Nat) := [(0, .iconst 0, 1, 0), (1, .istore_n 2, 1, 0), (2, .iconst 0, 1, 0), (3, .istore_n 3, 1, 0), (4, .iload_n 3, 1, 0), (5, .aload_n 0, 1, 0), (6, .getfield 91, 3, 0), (9, .if_icmp .ge 29, 3, 38), (12, .iload_n 2, 1, 0), (13, .ifCond .ne 13, 3, 26), (16, .aload_n 0, 1, 0), (17, .getfield 26, 3, 0)]
theorem mk71_0 : (mc71_0).all (m_okI prog_8_method_6_code) = true := by decide +kernel
def mc71_1 : List (Nat × Instr × Nat × Nat) := [(20, .iload_n 3, 1, 0), (21, .iaload, 1, 0), (22, .iload_n 1, 1, 0), (23, .if_icmp .ne 7, 3, 30), (26, .iconst 1, 1, 0), (27, .goto 4, 3, 31), (30, .iconst 0, 1, 0), (31, .istore_n 2, 1, 0), (32, .iinc 3 1, 3, 0), (35, .goto (-31), 3, 4), (38, .iload_n 2, 1, 0), (39, .ireturn, 1, 0)]
theorem mk71_1 : (mc71_1).all (m_okI prog_8_method_6_code) = true := by decide +kernel
def mc71 : List (Nat × List (Nat × Instr × Nat × Nat)) := [(18, mc71_0), (40, mc71_1)]
theorem mk71 : ∀ c ∈ mc71, c.2.all (m_okI prog_8_method_6_code) = true := by
  simp only [mc71, List.forall_mem_cons, List.not_mem_nil, false_implies, implies_true, and_true]
  exact ⟨mk71_0, mk71_1⟩
/-- EscapeCellsModel.changed()V -/
def mc72_0 : List (Nat × Instr × Nat × Nat) := [(0, .aload_n 0, 1, 0), (1, .iconst 0, 1, 0), (2, .putfield 94, 3, 0), (5, .aload_n 0, 1, 0), (6, .iconst 0, 1, 0), (7, .putfield 98, 3, 0), (10, .return_, 1, 0)]
theorem mk72_0 : (mc72_0).all (m_okI prog_8_method_7_code) = true := by decide +kernel
def mc72 : List (Nat × List (Nat × Instr × Nat × Nat)) := [(11, mc72_0)]
theorem mk72 : ∀ c ∈ mc72, c.2.all (m_okI prog_8_method_7_code) = true := by
  simp only [mc72, List.forall_mem_cons, List.not_mem_nil, false_implies, implies_true, and_true]
  exact mk72_0
/-- EscapeCellsModel.wall(IIZ)Z -/
def mc73_0 : List (Nat × Instr × Nat × Nat) := [(0, .aload_n 0, 1, 0), (1, .aload_n 0, 1, 0), (2, .iload_n 1, 1, 0), (3, .iload_n 2, 1, 0), (4, .invokevirtual 101, 3, 0), (7, .ifCond .ne 7, 3, 14), (10, .iconst 1, 1, 0), (11, .goto 20, 3, 31), (14, .aload_n 0, 1, 0), (15, .iload_n 1, 1, 0), (16, .iload_n 2, 1, 0), (17, .invokestatic 105, 3, 0)]
theorem mk73_0 : (mc73_0).all (m_okI prog_8_method_8_code) = true := by decide +kernel
def mc73_1 : List (Nat × Instr × Nat × Nat) := [(20, .invokevirtual 109, 3, 0), (23, .ifCond .eq 7, 3, 30), (26, .iconst 2, 1, 0), (27, .goto 4, 3, 31), (30, .iconst 0, 1, 0), (31, .invokevirtual 113, 3, 0), (34, .ifCond .eq 5, 3, 39), (37, .iconst 0, 1, 0), (38, .ireturn, 1, 0), (39, .iload_n 1, 1, 0), (40, .iload_n 2, 1, 0), (41, .invokestatic 105, 3, 0)]
theorem mk73_1 : (mc73_1).all (m_okI prog_8_method_8_code) = true := by decide +kernel
def mc73_2 : List (Nat × Instr × Nat × Nat) := [(44, .istore 4, 2, 0), (46, .aload_n 0, 1, 0), (47, .getfield 7, 3, 0), (50, .iload 4, 2, 0), (52, .baload, 1, 0), (53, .istore 5, 2, 0), (55, .aload_n 0, 1, 0), (56, .getfield 7, 3, 0), (59, .iload 4, 2, 0), (61, .iload_n 3, 1, 0), (62, .bastore, 1, 0), (63, .aload_n 0, 1, 0)]
theorem mk73_2 : (mc73_2).all (m_okI prog_8_method_8_code) = true := by decide +kernel
def mc73_3 : List (Nat × Instr × Nat × Nat) := [(64, .getfield 13, 3, 0), (67, .iload 4, 2, 0), (69, .iload_n 3, 1, 0), (70, .ifCond .eq 7, 3, 77), (73, .iconst (-1), 1, 0), (74, .goto 10, 3, 84), (77, .aload_n 0, 1, 0), (78, .getfield 13, 3, 0), (81, .iload 4, 2, 0), (83, .iaload, 1, 0), (84, .iastore, 1, 0), (85, .aload_n 0, 1, 0)]
theorem mk73_3 : (mc73_3).all (m_okI prog_8_method_8_code) = true := by decide +kernel
def mc73_4 : List (Nat × Instr × Nat × Nat) := [(86, .getfield 17, 3, 0), (89, .iload 4, 2, 0), (91, .iload_n 3, 1, 0), (92, .ifCond .eq 7, 3, 99), (95, .iconst 0, 1, 0), (96, .goto 10, 3, 106), (99, .aload_n 0, 1, 0), (100, .getfield 17, 3, 0), (103, .iload 4, 2, 0), (105, .iaload, 1, 0), (106, .iastore, 1, 0), (107, .aload_n 0, 1, 0)]
theorem mk73_4 : (mc73_4).all (m_okI prog_8_method_8_code) = true := by decide +kernel
def mc73_5 : List (Nat × Instr × Nat × Nat) := [(108, .invokevirtual 116, 3, 0), (111, .iload 5, 2, 0), (113, .ireturn, 1, 0)]
theorem mk73_5 : (mc73_5).all (m_okI prog_8_method_8_code) = true := by decide +kernel
def mc73 : List (Nat × List (Nat × Instr × Nat × Nat)) := [(18, mc73_0), (42, mc73_1), (64, mc73_2), (86, mc73_3), (108, mc73_4), (114, mc73_5)]
theorem mk73 : ∀ c ∈ mc73, c.2.all (m_okI prog_8_method_8_code) = true := by
  simp only [mc73, List.forall_mem_cons, List.not_mem_nil, false_implies, implies_true, and_true]
  exact ⟨mk73_0, mk73_1, mk73_2, mk73_3, mk73_4, mk73_5⟩
/-- EscapeCellsModel.exit(III)I -/
def mc74_0 : List (Nat × Instr × Nat × Nat) := [(0, .aload_n 0, 1, 0), (1, .iload_n 1, 1, 0), (2, .iload_n 2, 1, 0), (3, .invokevirtual 101, 3, 0), (6, .ifCond .eq 17, 3, 23), (9, .iload_n 3, 1, 0), (10, .ifCond .le 13, 3, 23), (13, .iload_n 3, 1, 0), (14, .bipush 6, 2, 0), (16, .if_icmp .ge 7, 3, 23), (19, .iconst 1, 1, 0), (20, .goto 4, 3, 24)]
theorem mk74_0 : (mc74_0).all (m_okI prog_8_method_9_code) = true := by decide +kernel
def mc74_1 : List (Nat × Instr × Nat × Nat) := [(23, .iconst 0, 1, 0), (24, .istore 4, 2, 0), (26, .iload 4, 2, 0), (28, .ifCond .eq 11, 3, 39), (31, .iload_n 1, 1, 0), (32, .iload_n 2, 1, 0), (33, .invokestatic 105, 3, 0), (36, .goto 4, 3, 40), (39, .iconst 0, 1, 0), (40, .istore 5, 2, 0), (42, .iload 4, 2, 0), (44, .ifCond .eq 45, 3, 89)]
theorem mk74_1 : (mc74_1).all (m_okI prog_8_method_9_code) = true := by decide +kernel
def mc74_2 : List (Nat × Instr × Nat × Nat) := [(47, .aload_n 0, 1, 0), (48, .getfield 7, 3, 0), (51, .iload 5, 2, 0), (53, .baload, 1, 0), (54, .ifCond .ne 35, 3, 89), (57, .aload_n 0, 1, 0), (58, .iload 5, 2, 0), (60, .invokevirtual 109, 3, 0), (63, .ifCond .ne 26, 3, 89), (66, .aload_n 0, 1, 0), (67, .getfield 13, 3, 0), (70, .iload 5, 2, 0)]
theorem mk74_2 : (mc74_2).all (m_okI prog_8_method_9_code) = true := by decide +kernel
def mc74_3 : List (Nat × Instr × Nat × Nat) := [(72, .iaload, 1, 0), (73, .ifCond .ge 12, 3, 85), (76, .aload_n 0, 1, 0), (77, .getfield 119, 3, 0), (80, .bipush 8, 2, 0), (82, .if_icmp .ge 7, 3, 89), (85, .iconst 1, 1, 0), (86, .goto 4, 3, 90), (89, .iconst 0, 1, 0), (90, .istore 6, 2, 0), (92, .aload_n 0, 1, 0), (93, .iload 4, 2, 0)]
theorem mk74_3 : (mc74_3).all (m_okI prog_8_method_9_code) = true := by decide +kernel
def mc74_4 : List (Nat × Instr × Nat × Nat) := [(95, .ifCond .ne 7, 3, 102), (98, .iconst 1, 1, 0), (99, .goto 13, 3, 112), (102, .iload 6, 2, 0), (104, .ifCond .ne 7, 3, 111), (107, .iconst 2, 1, 0), (108, .goto 4, 3, 112), (111, .iconst 0, 1, 0), (112, .invokevirtual 113, 3, 0), (115, .ifCond .eq 5, 3, 120), (118, .iconst 0, 1, 0), (119, .ireturn, 1, 0)]
theorem mk74_4 : (mc74_4).all (m_okI prog_8_method_9_code) = true := by decide +kernel
def mc74_5 : List (Nat × Instr × Nat × Nat) := [(120, .aload_n 0, 1, 0), (121, .getfield 13, 3, 0), (124, .iload 5, 2, 0), (126, .iaload, 1, 0), (127, .ifCond .ge 35, 3, 162), (130, .aload_n 0, 1, 0), (131, .getfield 13, 3, 0), (134, .iload 5, 2, 0), (136, .aload_n 0, 1, 0), (137, .getfield 119, 3, 0), (140, .iastore, 1, 0), (141, .aload_n 0, 1, 0)]
theorem mk74_5 : (mc74_5).all (m_okI prog_8_method_9_code) = true := by decide +kernel
def mc74_6 : List (Nat × Instr × Nat × Nat) := [(142, .getfield 23, 3, 0), (145, .aload_n 0, 1, 0), (146, .getfield 119, 3, 0), (149, .iload 5, 2, 0), (151, .iastore, 1, 0), (152, .aload_n 0, 1, 0), (153, .dup, 1, 0), (154, .getfield 119, 3, 0), (157, .iconst 1, 1, 0), (158, .iadd, 1, 0), (159, .putfield 119, 3, 0), (162, .aload_n 0, 1, 0)]
theorem mk74_6 : (mc74_6).all (m_okI prog_8_method_9_code) = true := by decide +kernel
def mc74_7 : List (Nat × Instr × Nat × Nat) := [(163, .getfield 17, 3, 0), (166, .iload 5, 2, 0), (168, .iload_n 3, 1, 0), (169, .iastore, 1, 0), (170, .aload_n 0, 1, 0), (171, .invokevirtual 116, 3, 0), (174, .aload_n 0, 1, 0), (175, .getfield 13, 3, 0), (178, .iload 5, 2, 0), (180, .iaload, 1, 0), (181, .ireturn, 1, 0)]
theorem mk74_7 : (mc74_7).all (m_okI prog_8_method_9_code) = true := by decide +kernel
def mc74 : List (Nat × List (Nat × Instr × Nat × Nat)) := [(21, mc74_0), (45, mc74_1), (71, mc74_2), (94, mc74_3), (120, mc74_4), (142, mc74_5), (163, mc74_6), (182, mc74_7)]
theorem mk74 : ∀ c ∈ mc74, c.2.all (m_okI prog_8_method_9_code) = true := by
  simp only [mc74, List.forall_mem_cons, List.not_mem_nil, false_implies, implies_true, and_true]
  exact ⟨mk74_0, mk74_1, mk74_2, mk74_3, mk74_4, mk74_5, mk74_6, mk74_7⟩
/-- EscapeCellsModel.door(III)V -/
def mc75_0 : List (Nat × Instr × Nat × Nat) := [(0, .aload_n 0, 1, 0), (1, .iload_n 1, 1, 0), (2, .iload_n 2, 1, 0), (3, .invokevirtual 101, 3, 0), (6, .ifCond .eq 17, 3, 23), (9, .iload_n 3, 1, 0), (10, .ifCond .le 13, 3, 23), (13, .iload_n 3, 1, 0), (14, .bipush 6, 2, 0), (16, .if_icmp .ge 7, 3, 23), (19, .iconst 1, 1, 0), (20, .goto 4, 3, 24)]
theorem mk75_0 : (mc75_0).all (m_okI prog_8_method_10_code) = true := by decide +kernel
def mc75_1 : List (Nat × Instr × Nat × Nat) := [(23, .iconst 0, 1, 0), (24, .istore 4, 2, 0), (26, .iload 4, 2, 0), (28, .ifCond .eq 11, 3, 39), (31, .iload_n 1, 1, 0), (32, .iload_n 2, 1, 0), (33, .invokestatic 105, 3, 0), (36, .goto 4, 3, 40), (39, .iconst 0, 1, 0), (40, .istore 5, 2, 0), (42, .aload_n 0, 1, 0), (43, .iload 4, 2, 0)]
theorem mk75_1 : (mc75_1).all (m_okI prog_8_method_10_code) = true := by decide +kernel
def mc75_2 : List (Nat × Instr × Nat × Nat) := [(45, .ifCond .ne 7, 3, 52), (48, .iconst 1, 1, 0), (49, .goto 28, 3, 77), (52, .aload_n 0, 1, 0), (53, .getfield 7, 3, 0), (56, .iload 5, 2, 0), (58, .baload, 1, 0), (59, .ifCond .ne 13, 3, 72), (62, .aload_n 0, 1, 0), (63, .getfield 13, 3, 0), (66, .iload 5, 2, 0), (68, .iaload, 1, 0)]
theorem mk75_2 : (mc75_2).all (m_okI prog_8_method_10_code) = true := by decide +kernel
def mc75_3 : List (Nat × Instr × Nat × Nat) := [(69, .ifCond .lt 7, 3, 76), (72, .iconst 2, 1, 0), (73, .goto 4, 3, 77), (76, .iconst 0, 1, 0), (77, .invokevirtual 113, 3, 0), (80, .ifCond .ne 15, 3, 95), (83, .aload_n 0, 1, 0), (84, .getfield 17, 3, 0), (87, .iload 5, 2, 0), (89, .iload_n 3, 1, 0), (90, .iastore, 1, 0), (91, .aload_n 0, 1, 0)]
theorem mk75_3 : (mc75_3).all (m_okI prog_8_method_10_code) = true := by decide +kernel
def mc75_4 : List (Nat × Instr × Nat × Nat) := [(92, .invokevirtual 116, 3, 0), (95, .return_, 1, 0)]
theorem mk75_4 : (mc75_4).all (m_okI prog_8_method_10_code) = true := by decide +kernel
def mc75 : List (Nat × List (Nat × Instr × Nat × Nat)) := [(21, mc75_0), (44, mc75_1), (69, mc75_2), (92, mc75_3), (96, mc75_4)]
theorem mk75 : ∀ c ∈ mc75, c.2.all (m_okI prog_8_method_10_code) = true := by
  simp only [mc75, List.forall_mem_cons, List.not_mem_nil, false_implies, implies_true, and_true]
  exact ⟨mk75_0, mk75_1, mk75_2, mk75_3, mk75_4⟩
/-- EscapeCellsModel.smoke(III)I -/
def mc76_0 : List (Nat × Instr × Nat × Nat) := [(0, .aload_n 0, 1, 0), (1, .aload_n 0, 1, 0), (2, .iload_n 1, 1, 0), (3, .iload_n 2, 1, 0), (4, .invokevirtual 101, 3, 0), (7, .ifCond .eq 15, 3, 22), (10, .iload_n 3, 1, 0), (11, .iconst (-1), 1, 0), (12, .if_icmp .lt 10, 3, 22), (15, .iload_n 3, 1, 0), (16, .sipush 3600, 3, 0), (19, .if_icmp .le 7, 3, 26)]
theorem mk76_0 : (mc76_0).all (m_okI prog_8_method_11_code) = true := by decide +kernel
def mc76_1 : List (Nat × Instr × Nat × Nat) := [(22, .iconst 1, 1, 0), (23, .goto 4, 3, 27), (26, .iconst 0, 1, 0), (27, .invokevirtual 113, 3, 0), (30, .ifCond .eq 5, 3, 35), (33, .iconst 0, 1, 0), (34, .ireturn, 1, 0), (35, .aload_n 0, 1, 0), (36, .getfield 20, 3, 0), (39, .iload_n 1, 1, 0), (40, .iload_n 2, 1, 0), (41, .invokestatic 105, 3, 0)]
theorem mk76_1 : (mc76_1).all (m_okI prog_8_method_11_code) = true := by decide +kernel
def mc76_2 : List (Nat × Instr × Nat × Nat) := [(44, .iaload, 1, 0), (45, .istore 4, 2, 0), (47, .aload_n 0, 1, 0), (48, .getfield 20, 3, 0), (51, .iload_n 1, 1, 0), (52, .iload_n 2, 1, 0), (53, .invokestatic 105, 3, 0), (56, .iload_n 3, 1, 0), (57, .iastore, 1, 0), (58, .aload_n 0, 1, 0), (59, .invokevirtual 116, 3, 0), (62, .iload 4, 2, 0)]
theorem mk76_2 : (mc76_2).all (m_okI prog_8_method_11_code) = true := by decide +kernel
def mc76_3 : List (Nat × Instr × Nat × Nat) := [(64, .ireturn, 1, 0)]
theorem mk76_3 : (mc76_3).all (m_okI prog_8_method_11_code) = true := by decide +kernel
def mc76 : List (Nat × List (Nat × Instr × Nat × Nat)) := [(20, mc76_0), (42, mc76_1), (63, mc76_2), (65, mc76_3)]
theorem mk76 : ∀ c ∈ mc76, c.2.all (m_okI prog_8_method_11_code) = true := by
  simp only [mc76, List.forall_mem_cons, List.not_mem_nil, false_implies, implies_true, and_true]
  exact ⟨mk76_0, mk76_1, mk76_2, mk76_3⟩
