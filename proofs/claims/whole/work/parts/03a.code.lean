/-- EscapeCells$Flight.<init>(LEscapeCells$Storey;LEscapeCells$Numbers;LEscapeCells$People;)V -/
def mc0_0 : List (Nat × Instr × Nat × Nat) := [(0, .aload_n 0, 1, 0), (1, .invokespecial 3, 3, 0), (4, .aload_n 0, 1, 0), (5, .aload_n 1, 1, 0), (6, .putfield 9, 3, 0), (9, .aload_n 0, 1, 0), (10, .aload_n 2, 1, 0), (11, .putfield 15, 3, 0), (14, .aload_n 0, 1, 0), (15, .aload_n 3, 1, 0), (16, .putfield 19, 3, 0), (19, .aload_n 0, 1, 0)]
theorem mk0_0 : (mc0_0).all (m_okI prog_2_method_1_code) = true := by decide +kernel
def mc0_1 : List (Nat × Instr × Nat × Nat) := [(20, .bipush 60, 2, 0), (22, .newarray .int, 2, 0), (24, .putfield 23, 3, 0), (27, .aload_n 0, 1, 0), (28, .bipush 60, 2, 0), (30, .newarray .int, 2, 0), (32, .putfield 27, 3, 0), (35, .aload_n 0, 1, 0), (36, .bipush 60, 2, 0), (38, .newarray .int, 2, 0), (40, .putfield 30, 3, 0), (43, .aload_n 0, 1, 0)]
theorem mk0_1 : (mc0_1).all (m_okI prog_2_method_1_code) = true := by decide +kernel
def mc0_2 : List (Nat × Instr × Nat × Nat) := [(44, .bipush 60, 2, 0), (46, .newarray .int, 2, 0), (48, .putfield 33, 3, 0), (51, .aload_n 0, 1, 0), (52, .aload_n 1, 1, 0), (53, .getfield 36, 3, 0), (56, .newarray .int, 2, 0), (58, .putfield 42, 3, 0), (61, .aload_n 0, 1, 0), (62, .bipush 60, 2, 0), (64, .newarray .int, 2, 0), (66, .putfield 45, 3, 0)]
theorem mk0_2 : (mc0_2).all (m_okI prog_2_method_1_code) = true := by decide +kernel
def mc0_3 : List (Nat × Instr × Nat × Nat) := [(69, .aload_n 0, 1, 0), (70, .bipush 60, 2, 0), (72, .newarray .int, 2, 0), (74, .putfield 48, 3, 0), (77, .aload_n 0, 1, 0), (78, .bipush 60, 2, 0), (80, .newarray .int, 2, 0), (82, .putfield 51, 3, 0), (85, .aload_n 0, 1, 0), (86, .bipush 60, 2, 0), (88, .aload_n 1, 1, 0), (89, .getfield 36, 3, 0)]
theorem mk0_3 : (mc0_3).all (m_okI prog_2_method_1_code) = true := by decide +kernel
def mc0_4 : List (Nat × Instr × Nat × Nat) := [(92, .multianewarray 54 2, 4, 0), (96, .putfield 56, 3, 0), (99, .aload_n 0, 1, 0), (100, .bipush 60, 2, 0), (102, .aload_n 1, 1, 0), (103, .getfield 36, 3, 0), (106, .multianewarray 54 2, 4, 0), (110, .putfield 59, 3, 0), (113, .aload_n 0, 1, 0), (114, .aload_n 1, 1, 0), (115, .getfield 36, 3, 0), (118, .newarray .int, 2, 0)]
theorem mk0_4 : (mc0_4).all (m_okI prog_2_method_1_code) = true := by decide +kernel
def mc0_5 : List (Nat × Instr × Nat × Nat) := [(120, .putfield 62, 3, 0), (123, .aload_n 0, 1, 0), (124, .aload_n 1, 1, 0), (125, .getfield 36, 3, 0), (128, .newarray .int, 2, 0), (130, .putfield 65, 3, 0), (133, .aload_n 0, 1, 0), (134, .aload_n 1, 1, 0), (135, .getfield 36, 3, 0), (138, .newarray .int, 2, 0), (140, .putfield 68, 3, 0), (143, .aload_n 0, 1, 0)]
theorem mk0_5 : (mc0_5).all (m_okI prog_2_method_1_code) = true := by decide +kernel
def mc0_6 : List (Nat × Instr × Nat × Nat) := [(144, .bipush 60, 2, 0), (146, .newarray .int, 2, 0), (148, .putfield 71, 3, 0), (151, .aload_n 0, 1, 0), (152, .iconst 0, 1, 0), (153, .putfield 74, 3, 0), (156, .aload_n 0, 1, 0), (157, .iconst 0, 1, 0), (158, .putfield 77, 3, 0), (161, .return_, 1, 0)]
theorem mk0_6 : (mc0_6).all (m_okI prog_2_method_1_code) = true := by decide +kernel
def mc0 : List (Nat × List (Nat × Instr × Nat × Nat)) := [(20, mc0_0), (44, mc0_1), (67, mc0_2), (90, mc0_3), (119, mc0_4), (144, mc0_5), (162, mc0_6)]
theorem mk0 : ∀ c ∈ mc0, c.2.all (m_okI prog_2_method_1_code) = true := by
  simp only [mc0, List.forall_mem_cons, List.not_mem_nil, false_implies, implies_true, and_true]
  exact ⟨mk0_0, mk0_1, mk0_2, mk0_3, mk0_4, mk0_5, mk0_6⟩
/-- EscapeCells$Flight.goAll()V -/
def mc1_0 : List (Nat × Instr × Nat × Nat) := [(0, .aload_n 0, 1, 0), (1, .invokevirtual 80, 3, 0), (4, .iconst 0, 1, 0), (5, .istore_n 1, 1, 0), (6, .iconst 1, 1, 0), (7, .istore_n 2, 1, 0), (8, .aload_n 0, 1, 0), (9, .getfield 74, 3, 0), (12, .ifCond .le 61, 3, 73), (15, .iload_n 1, 1, 0), (16, .sipush 3600, 3, 0), (19, .if_icmp .ge 54, 3, 73)]
theorem mk1_0 : (mc1_0).all (m_okI prog_2_method_2_code) = true := by decide +kernel
def mc1_1 : List (Nat × Instr × Nat × Nat) := [(22, .iload_n 1, 1, 0), (23, .iconst 1, 1, 0), (24, .iadd, 1, 0), (25, .iload_n 2, 1, 0), (26, .ifCond .eq 7, 3, 33), (29, .iconst 0, 1, 0), (30, .goto 8, 3, 38), (33, .aload_n 0, 1, 0), (34, .iload_n 1, 1, 0), (35, .invokevirtual 83, 3, 0), (38, .invokestatic 87, 3, 0), (41, .istore_n 1, 1, 0)]
theorem mk1_1 : (mc1_1).all (m_okI prog_2_method_2_code) = true := by decide +kernel
def mc1_2 : List (Nat × Instr × Nat × Nat) := [(42, .aload_n 0, 1, 0), (43, .iload_n 1, 1, 0), (44, .invokevirtual 93, 3, 0), (47, .istore_n 3, 1, 0), (48, .aload_n 0, 1, 0), (49, .iload_n 1, 1, 0), (50, .invokevirtual 97, 3, 0), (53, .istore 4, 2, 0), (55, .iload_n 3, 1, 0), (56, .ifCond .ne 8, 3, 64), (59, .iload 4, 2, 0), (61, .ifCond .eq 7, 3, 68)]
theorem mk1_2 : (mc1_2).all (m_okI prog_2_method_2_code) = true := by decide +kernel
def mc1_3 : List (Nat × Instr × Nat × Nat) := [(64, .iconst 1, 1, 0), (65, .goto 4, 3, 69), (68, .iconst 0, 1, 0), (69, .istore_n 2, 1, 0), (70, .goto (-62), 3, 8), (73, .aload_n 0, 1, 0), (74, .iload_n 1, 1, 0), (75, .putfield 77, 3, 0), (78, .return_, 1, 0)]
theorem mk1_3 : (mc1_3).all (m_okI prog_2_method_2_code) = true := by decide +kernel
def mc1 : List (Nat × List (Nat × Instr × Nat × Nat)) := [(20, mc1_0), (42, mc1_1), (62, mc1_2), (79, mc1_3)]
theorem mk1 : ∀ c ∈ mc1, c.2.all (m_okI prog_2_method_2_code) = true := by
  simp only [mc1, List.forall_mem_cons, List.not_mem_nil, false_implies, implies_true, and_true]
  exact ⟨mk1_0, mk1_1, mk1_2, mk1_3⟩
/-- EscapeCells$Flight.begin()V -/
def mc2_0 : List (Nat × Instr × Nat × Nat) := [(0, .aload_n 0, 1, 0), (1, .getfield 19, 3, 0), (4, .getfield 100, 3, 0), (7, .iconst 0, 1, 0), (8, .aload_n 0, 1, 0), (9, .getfield 62, 3, 0), (12, .iconst 0, 1, 0), (13, .aload_n 0, 1, 0), (14, .getfield 62, 3, 0), (17, .arraylength, 1, 0), (18, .invokestatic 103, 3, 0), (21, .aload_n 0, 1, 0)]
theorem mk2_0 : (mc2_0).all (m_okI prog_2_method_3_code) = true := by decide +kernel
def mc2_1 : List (Nat × Instr × Nat × Nat) := [(22, .getfield 42, 3, 0), (25, .iconst 0, 1, 0), (26, .invokestatic 109, 3, 0), (29, .aload_n 0, 1, 0), (30, .getfield 68, 3, 0), (33, .iconst 0, 1, 0), (34, .invokestatic 109, 3, 0), (37, .aload_n 0, 1, 0), (38, .aload_n 0, 1, 0), (39, .getfield 19, 3, 0), (42, .getfield 115, 3, 0), (45, .putfield 74, 3, 0)]
theorem mk2_1 : (mc2_1).all (m_okI prog_2_method_3_code) = true := by decide +kernel
def mc2_2 : List (Nat × Instr × Nat × Nat) := [(48, .iconst 0, 1, 0), (49, .istore_n 1, 1, 0), (50, .iload_n 1, 1, 0), (51, .aload_n 0, 1, 0), (52, .getfield 19, 3, 0), (55, .getfield 115, 3, 0), (58, .if_icmp .ge 88, 3, 146), (61, .aload_n 0, 1, 0), (62, .getfield 23, 3, 0), (65, .iload_n 1, 1, 0), (66, .iconst 0, 1, 0), (67, .iastore, 1, 0)]
theorem mk2_2 : (mc2_2).all (m_okI prog_2_method_3_code) = true := by decide +kernel
def mc2_3 : List (Nat × Instr × Nat × Nat) := [(68, .aload_n 0, 1, 0), (69, .getfield 27, 3, 0), (72, .iload_n 1, 1, 0), (73, .iconst (-1), 1, 0), (74, .iastore, 1, 0), (75, .aload_n 0, 1, 0), (76, .getfield 30, 3, 0), (79, .iload_n 1, 1, 0), (80, .iconst (-1), 1, 0), (81, .iastore, 1, 0), (82, .aload_n 0, 1, 0), (83, .getfield 33, 3, 0)]
theorem mk2_3 : (mc2_3).all (m_okI prog_2_method_3_code) = true := by decide +kernel
def mc2_4 : List (Nat × Instr × Nat × Nat) := [(86, .iload_n 1, 1, 0), (87, .iconst 0, 1, 0), (88, .iastore, 1, 0), (89, .aload_n 0, 1, 0), (90, .getfield 45, 3, 0), (93, .iload_n 1, 1, 0), (94, .aload_n 0, 1, 0), (95, .getfield 19, 3, 0), (98, .getfield 118, 3, 0), (101, .iload_n 1, 1, 0), (102, .iaload, 1, 0), (103, .iastore, 1, 0)]
theorem mk2_4 : (mc2_4).all (m_okI prog_2_method_3_code) = true := by decide +kernel
def mc2_5 : List (Nat × Instr × Nat × Nat) := [(104, .aload_n 0, 1, 0), (105, .getfield 48, 3, 0), (108, .iload_n 1, 1, 0), (109, .aload_n 0, 1, 0), (110, .iload_n 1, 1, 0), (111, .invokevirtual 121, 3, 0), (114, .iastore, 1, 0), (115, .aload_n 0, 1, 0), (116, .getfield 51, 3, 0), (119, .iload_n 1, 1, 0), (120, .aload_n 0, 1, 0), (121, .getfield 19, 3, 0)]
theorem mk2_5 : (mc2_5).all (m_okI prog_2_method_3_code) = true := by decide +kernel
def mc2_6 : List (Nat × Instr × Nat × Nat) := [(124, .getfield 124, 3, 0), (127, .iload_n 1, 1, 0), (128, .iaload, 1, 0), (129, .aload_n 0, 1, 0), (130, .getfield 19, 3, 0), (133, .getfield 127, 3, 0), (136, .iload_n 1, 1, 0), (137, .iaload, 1, 0), (138, .iadd, 1, 0), (139, .iastore, 1, 0), (140, .iinc 1 1, 3, 0), (143, .goto (-93), 3, 50)]
theorem mk2_6 : (mc2_6).all (m_okI prog_2_method_3_code) = true := by decide +kernel
def mc2_7 : List (Nat × Instr × Nat × Nat) := [(146, .return_, 1, 0)]
theorem mk2_7 : (mc2_7).all (m_okI prog_2_method_3_code) = true := by decide +kernel
def mc2 : List (Nat × List (Nat × Instr × Nat × Nat)) := [(22, mc2_0), (46, mc2_1), (68, mc2_2), (84, mc2_3), (104, mc2_4), (122, mc2_5), (144, mc2_6), (147, mc2_7)]
theorem mk2 : ∀ c ∈ mc2, c.2.all (m_okI prog_2_method_3_code) = true := by
  simp only [mc2, List.forall_mem_cons, List.not_mem_nil, false_implies, implies_true, and_true]
  exact ⟨mk2_0, mk2_1, mk2_2, mk2_3, mk2_4, mk2_5, mk2_6, mk2_7⟩
/-- EscapeCells$Flight.goalOf(I)I -/
def mc3_0 : List (Nat × Instr × Nat × Nat) := [(0, .aload_n 0, 1, 0), (1, .getfield 19, 3, 0), (4, .getfield 130, 3, 0), (7, .iload_n 1, 1, 0), (8, .iaload, 1, 0), (9, .istore_n 2, 1, 0), (10, .aload_n 0, 1, 0), (11, .getfield 15, 3, 0), (14, .iload_n 2, 1, 0), (15, .invokevirtual 133, 3, 0), (18, .aload_n 0, 1, 0), (19, .getfield 19, 3, 0)]
theorem mk3_0 : (mc3_0).all (m_okI prog_2_method_4_code) = true := by decide +kernel
def mc3_1 : List (Nat × Instr × Nat × Nat) := [(22, .getfield 118, 3, 0), (25, .iload_n 1, 1, 0), (26, .iaload, 1, 0), (27, .iaload, 1, 0), (28, .iconst (-1), 1, 0), (29, .if_icmp .ne 7, 3, 36), (32, .iconst (-1), 1, 0), (33, .goto 4, 3, 37), (36, .iload_n 2, 1, 0), (37, .ireturn, 1, 0)]
theorem mk3_1 : (mc3_1).all (m_okI prog_2_method_4_code) = true := by decide +kernel
def mc3 : List (Nat × List (Nat × Instr × Nat × Nat)) := [(20, mc3_0), (38, mc3_1)]
theorem mk3 : ∀ c ∈ mc3, c.2.all (m_okI prog_2_method_4_code) = true := by
  simp only [mc3, List.forall_mem_cons, List.not_mem_nil, false_implies, implies_true, and_true]
  exact ⟨mk3_0, mk3_1⟩
/-- EscapeCells$Flight.nextChange(I)I -/
def mc4_0 : List (Nat × Instr × Nat × Nat) := [(0, .sipush 3600, 3, 0), (3, .istore_n 2, 1, 0), (4, .iconst 0, 1, 0), (5, .istore_n 3, 1, 0), (6, .iload_n 3, 1, 0), (7, .aload_n 0, 1, 0), (8, .getfield 19, 3, 0), (11, .getfield 115, 3, 0), (14, .if_icmp .ge 68, 3, 82), (17, .aload_n 0, 1, 0), (18, .getfield 23, 3, 0), (21, .iload_n 3, 1, 0)]
theorem mk4_0 : (mc4_0).all (m_okI prog_2_method_5_code) = true := by decide +kernel
def mc4_1 : List (Nat × Instr × Nat × Nat) := [(22, .iaload, 1, 0), (23, .ifCond .ne 53, 3, 76), (26, .aload_n 0, 1, 0), (27, .getfield 51, 3, 0), (30, .iload_n 3, 1, 0), (31, .iaload, 1, 0), (32, .istore 4, 2, 0), (34, .iload 4, 2, 0), (36, .iload_n 1, 1, 0), (37, .if_icmp .le 10, 3, 47), (40, .iload_n 2, 1, 0), (41, .iload 4, 2, 0)]
theorem mk4_1 : (mc4_1).all (m_okI prog_2_method_5_code) = true := by decide +kernel
def mc4_2 : List (Nat × Instr × Nat × Nat) := [(43, .invokestatic 139, 3, 0), (46, .istore_n 2, 1, 0), (47, .aload_n 0, 1, 0), (48, .getfield 9, 3, 0), (51, .getfield 142, 3, 0), (54, .aload_n 0, 1, 0), (55, .getfield 45, 3, 0), (58, .iload_n 3, 1, 0), (59, .iaload, 1, 0), (60, .iaload, 1, 0), (61, .istore 5, 2, 0), (63, .iload 5, 2, 0)]
theorem mk4_2 : (mc4_2).all (m_okI prog_2_method_5_code) = true := by decide +kernel
def mc4_3 : List (Nat × Instr × Nat × Nat) := [(65, .iload_n 1, 1, 0), (66, .if_icmp .le 10, 3, 76), (69, .iload_n 2, 1, 0), (70, .iload 5, 2, 0), (72, .invokestatic 139, 3, 0), (75, .istore_n 2, 1, 0), (76, .iinc 3 1, 3, 0), (79, .goto (-73), 3, 6), (82, .iload_n 2, 1, 0), (83, .ireturn, 1, 0)]
theorem mk4_3 : (mc4_3).all (m_okI prog_2_method_5_code) = true := by decide +kernel
def mc4 : List (Nat × List (Nat × Instr × Nat × Nat)) := [(22, mc4_0), (42, mc4_1), (64, mc4_2), (84, mc4_3)]
theorem mk4 : ∀ c ∈ mc4, c.2.all (m_okI prog_2_method_5_code) = true := by
  simp only [mc4, List.forall_mem_cons, List.not_mem_nil, false_implies, implies_true, and_true]
  exact ⟨mk4_0, mk4_1, mk4_2, mk4_3⟩
/-- EscapeCells$Flight.endInSmoke(I)Z -/
def mc5_0 : List (Nat × Instr × Nat × Nat) := [(0, .iconst 0, 1, 0), (1, .istore_n 2, 1, 0), (2, .iconst 0, 1, 0), (3, .istore_n 3, 1, 0), (4, .iload_n 3, 1, 0), (5, .aload_n 0, 1, 0), (6, .getfield 19, 3, 0), (9, .getfield 115, 3, 0), (12, .if_icmp .ge 56, 3, 68), (15, .aload_n 0, 1, 0), (16, .getfield 23, 3, 0), (19, .iload_n 3, 1, 0)]
theorem mk5_0 : (mc5_0).all (m_okI prog_2_method_6_code) = true := by decide +kernel
def mc5_1 : List (Nat × Instr × Nat × Nat) := [(20, .iaload, 1, 0), (21, .ifCond .ne 41, 3, 62), (24, .aload_n 0, 1, 0), (25, .getfield 9, 3, 0), (28, .aload_n 0, 1, 0), (29, .getfield 45, 3, 0), (32, .iload_n 3, 1, 0), (33, .iaload, 1, 0), (34, .iload_n 1, 1, 0), (35, .invokevirtual 145, 3, 0), (38, .ifCond .eq 24, 3, 62), (41, .aload_n 0, 1, 0)]
theorem mk5_1 : (mc5_1).all (m_okI prog_2_method_6_code) = true := by decide +kernel
def mc5_2 : List (Nat × Instr × Nat × Nat) := [(42, .getfield 62, 3, 0), (45, .aload_n 0, 1, 0), (46, .getfield 45, 3, 0), (49, .iload_n 3, 1, 0), (50, .iaload, 1, 0), (51, .iconst (-1), 1, 0), (52, .iastore, 1, 0), (53, .aload_n 0, 1, 0), (54, .iload_n 3, 1, 0), (55, .iconst 2, 1, 0), (56, .iload_n 1, 1, 0), (57, .invokevirtual 149, 3, 0)]
theorem mk5_2 : (mc5_2).all (m_okI prog_2_method_6_code) = true := by decide +kernel
def mc5_3 : List (Nat × Instr × Nat × Nat) := [(60, .iconst 1, 1, 0), (61, .istore_n 2, 1, 0), (62, .iinc 3 1, 3, 0), (65, .goto (-61), 3, 4), (68, .iload_n 2, 1, 0), (69, .ireturn, 1, 0)]
theorem mk5_3 : (mc5_3).all (m_okI prog_2_method_6_code) = true := by decide +kernel
def mc5 : List (Nat × List (Nat × Instr × Nat × Nat)) := [(20, mc5_0), (42, mc5_1), (58, mc5_2), (70, mc5_3)]
theorem mk5 : ∀ c ∈ mc5, c.2.all (m_okI prog_2_method_6_code) = true := by
  simp only [mc5, List.forall_mem_cons, List.not_mem_nil, false_implies, implies_true, and_true]
  exact ⟨mk5_0, mk5_1, mk5_2, mk5_3⟩
/-- EscapeCells$Flight.stepAll(I)Z -/
def mc6_0 : List (Nat × Instr × Nat × Nat) := [(0, .iconst 0, 1, 0), (1, .istore_n 2, 1, 0), (2, .aload_n 0, 1, 0), (3, .iload_n 1, 1, 0), (4, .invokevirtual 153, 3, 0), (7, .istore_n 3, 1, 0), (8, .iconst 0, 1, 0), (9, .istore 4, 2, 0), (11, .iload 4, 2, 0), (13, .iload_n 3, 1, 0), (14, .if_icmp .ge 26, 3, 40), (17, .aload_n 0, 1, 0)]
theorem mk6_0 : (mc6_0).all (m_okI prog_2_method_7_code) = true := by decide +kernel
def mc6_1 : List (Nat × Instr × Nat × Nat) := [(18, .aload_n 0, 1, 0), (19, .getfield 71, 3, 0), (22, .iload 4, 2, 0), (24, .iaload, 1, 0), (25, .iload_n 1, 1, 0), (26, .invokevirtual 156, 3, 0), (29, .ifCond .eq 5, 3, 34), (32, .iconst 1, 1, 0), (33, .istore_n 2, 1, 0), (34, .iinc 4 1, 3, 0), (37, .goto (-26), 3, 11), (40, .iload_n 2, 1, 0)]
theorem mk6_1 : (mc6_1).all (m_okI prog_2_method_7_code) = true := by decide +kernel
def mc6_2 : List (Nat × Instr × Nat × Nat) := [(41, .ireturn, 1, 0)]
theorem mk6_2 : (mc6_2).all (m_okI prog_2_method_7_code) = true := by decide +kernel
def mc6 : List (Nat × List (Nat × Instr × Nat × Nat)) := [(18, mc6_0), (41, mc6_1), (42, mc6_2)]
theorem mk6 : ∀ c ∈ mc6, c.2.all (m_okI prog_2_method_7_code) = true := by
  simp only [mc6, List.forall_mem_cons, List.not_mem_nil, false_implies, implies_true, and_true]
  exact ⟨mk6_0, mk6_1, mk6_2⟩
/-- EscapeCells$Flight.lineUp(I)I -/
def mc7_0 : List (Nat × Instr × Nat × Nat) := [(0, .iconst 0, 1, 0), (1, .istore_n 2, 1, 0), (2, .iconst 0, 1, 0), (3, .istore_n 3, 1, 0), (4, .iload_n 3, 1, 0), (5, .aload_n 0, 1, 0), (6, .getfield 19, 3, 0), (9, .getfield 115, 3, 0), (12, .if_icmp .ge 103, 3, 115), (15, .aload_n 0, 1, 0), (16, .getfield 23, 3, 0), (19, .iload_n 3, 1, 0)]
theorem mk7_0 : (mc7_0).all (m_okI prog_2_method_8_code) = true := by decide +kernel
def mc7_1 : List (Nat × Instr × Nat × Nat) := [(20, .iaload, 1, 0), (21, .ifCond .ne 88, 3, 109), (24, .aload_n 0, 1, 0), (25, .getfield 51, 3, 0), (28, .iload_n 3, 1, 0), (29, .iaload, 1, 0), (30, .iload_n 1, 1, 0), (31, .if_icmp .gt 78, 3, 109), (34, .aload_n 0, 1, 0), (35, .iload_n 3, 1, 0), (36, .invokevirtual 159, 3, 0), (39, .iconst (-1), 1, 0)]
theorem mk7_1 : (mc7_1).all (m_okI prog_2_method_8_code) = true := by decide +kernel
def mc7_2 : List (Nat × Instr × Nat × Nat) := [(40, .if_icmp .eq 69, 3, 109), (43, .aload_n 0, 1, 0), (44, .iload_n 3, 1, 0), (45, .invokevirtual 159, 3, 0), (48, .istore 4, 2, 0), (50, .iload_n 2, 1, 0), (51, .istore 5, 2, 0), (53, .iload 5, 2, 0), (55, .ifCond .le 43, 3, 98), (58, .aload_n 0, 1, 0), (59, .aload_n 0, 1, 0), (60, .getfield 71, 3, 0)]
theorem mk7_2 : (mc7_2).all (m_okI prog_2_method_8_code) = true := by decide +kernel
def mc7_3 : List (Nat × Instr × Nat × Nat) := [(63, .iload 5, 2, 0), (65, .iconst 1, 1, 0), (66, .isub, 1, 0), (67, .iaload, 1, 0), (68, .invokevirtual 159, 3, 0), (71, .iload 4, 2, 0), (73, .if_icmp .le 25, 3, 98), (76, .aload_n 0, 1, 0), (77, .getfield 71, 3, 0), (80, .iload 5, 2, 0), (82, .aload_n 0, 1, 0), (83, .getfield 71, 3, 0)]
theorem mk7_3 : (mc7_3).all (m_okI prog_2_method_8_code) = true := by decide +kernel
def mc7_4 : List (Nat × Instr × Nat × Nat) := [(86, .iload 5, 2, 0), (88, .iconst 1, 1, 0), (89, .isub, 1, 0), (90, .iaload, 1, 0), (91, .iastore, 1, 0), (92, .iinc 5 (-1), 3, 0), (95, .goto (-42), 3, 53), (98, .aload_n 0, 1, 0), (99, .getfield 71, 3, 0), (102, .iload 5, 2, 0), (104, .iload_n 3, 1, 0), (105, .iastore, 1, 0)]
theorem mk7_4 : (mc7_4).all (m_okI prog_2_method_8_code) = true := by decide +kernel
def mc7_5 : List (Nat × Instr × Nat × Nat) := [(106, .iinc 2 1, 3, 0), (109, .iinc 3 1, 3, 0), (112, .goto (-108), 3, 4), (115, .iload_n 2, 1, 0), (116, .ireturn, 1, 0)]
theorem mk7_5 : (mc7_5).all (m_okI prog_2_method_8_code) = true := by decide +kernel
def mc7 : List (Nat × List (Nat × Instr × Nat × Nat)) := [(20, mc7_0), (40, mc7_1), (61, mc7_2), (84, mc7_3), (106, mc7_4), (117, mc7_5)]
theorem mk7 : ∀ c ∈ mc7, c.2.all (m_okI prog_2_method_8_code) = true := by
  simp only [mc7, List.forall_mem_cons, List.not_mem_nil, false_implies, implies_true, and_true]
  exact ⟨mk7_0, mk7_1, mk7_2, mk7_3, mk7_4, mk7_5⟩
/-- EscapeCells$Flight.numberOf(I)I -/
def mc8_0 : List (Nat × Instr × Nat × Nat) := [(0, .aload_n 0, 1, 0), (1, .getfield 15, 3, 0), (4, .aload_n 0, 1, 0), (5, .getfield 48, 3, 0), (8, .iload_n 1, 1, 0), (9, .iaload, 1, 0), (10, .invokevirtual 133, 3, 0), (13, .aload_n 0, 1, 0), (14, .getfield 45, 3, 0), (17, .iload_n 1, 1, 0), (18, .iaload, 1, 0), (19, .iaload, 1, 0)]
theorem mk8_0 : (mc8_0).all (m_okI prog_2_method_9_code) = true := by decide +kernel
def mc8_1 : List (Nat × Instr × Nat × Nat) := [(20, .ireturn, 1, 0)]
theorem mk8_1 : (mc8_1).all (m_okI prog_2_method_9_code) = true := by decide +kernel
def mc8 : List (Nat × List (Nat × Instr × Nat × Nat)) := [(20, mc8_0), (21, mc8_1)]
theorem mk8 : ∀ c ∈ mc8, c.2.all (m_okI prog_2_method_9_code) = true := by
  simp only [mc8, List.forall_mem_cons, List.not_mem_nil, false_implies, implies_true, and_true]
  exact ⟨mk8_0, mk8_1⟩
/-- EscapeCells$Flight.stepOne(II)Z -/
def mc9_0 : List (Nat × Instr × Nat × Nat) := [(0, .aload_n 0, 1, 0), (1, .getfield 15, 3, 0), (4, .aload_n 0, 1, 0), (5, .getfield 48, 3, 0), (8, .iload_n 1, 1, 0), (9, .iaload, 1, 0), (10, .invokevirtual 133, 3, 0), (13, .astore_n 3, 1, 0), (14, .aload_n 0, 1, 0), (15, .getfield 45, 3, 0), (18, .iload_n 1, 1, 0), (19, .iaload, 1, 0)]
theorem mk9_0 : (mc9_0).all (m_okI prog_2_method_10_code) = true := by decide +kernel
def mc9_1 : List (Nat × Instr × Nat × Nat) := [(20, .istore 4, 2, 0), (22, .iconst 0, 1, 0), (23, .istore 5, 2, 0), (25, .iload 5, 2, 0), (27, .iconst 4, 1, 0), (28, .if_icmp .ge 108, 3, 136), (31, .aload_n 0, 1, 0), (32, .getfield 9, 3, 0), (35, .iload 4, 2, 0), (37, .iload 5, 2, 0), (39, .invokevirtual 162, 3, 0), (42, .istore 6, 2, 0)]
theorem mk9_1 : (mc9_1).all (m_okI prog_2_method_10_code) = true := by decide +kernel
def mc9_2 : List (Nat × Instr × Nat × Nat) := [(44, .iload 6, 2, 0), (46, .iconst (-1), 1, 0), (47, .if_icmp .eq 83, 3, 130), (50, .aload_n 3, 1, 0), (51, .iload 6, 2, 0), (53, .iaload, 1, 0), (54, .iconst (-1), 1, 0), (55, .if_icmp .eq 75, 3, 130), (58, .aload_n 3, 1, 0), (59, .iload 6, 2, 0), (61, .iaload, 1, 0), (62, .aload_n 3, 1, 0)]
theorem mk9_2 : (mc9_2).all (m_okI prog_2_method_10_code) = true := by decide +kernel
def mc9_3 : List (Nat × Instr × Nat × Nat) := [(63, .iload 4, 2, 0), (65, .iaload, 1, 0), (66, .if_icmp .ge 64, 3, 130), (69, .aload_n 0, 1, 0), (70, .iload 6, 2, 0), (72, .iload_n 2, 1, 0), (73, .invokevirtual 165, 3, 0), (76, .ifCond .eq 54, 3, 130), (79, .aload_n 0, 1, 0), (80, .iload_n 1, 1, 0), (81, .iload 6, 2, 0), (83, .iload_n 2, 1, 0)]
theorem mk9_3 : (mc9_3).all (m_okI prog_2_method_10_code) = true := by decide +kernel
def mc9_4 : List (Nat × Instr × Nat × Nat) := [(84, .invokevirtual 168, 3, 0), (87, .aload_n 3, 1, 0), (88, .iload 6, 2, 0), (90, .iaload, 1, 0), (91, .ifCond .ne 29, 3, 120), (94, .aload_n 0, 1, 0), (95, .getfield 30, 3, 0), (98, .iload_n 1, 1, 0), (99, .aload_n 0, 1, 0), (100, .getfield 9, 3, 0), (103, .getfield 171, 3, 0), (106, .iload 6, 2, 0)]
theorem mk9_4 : (mc9_4).all (m_okI prog_2_method_10_code) = true := by decide +kernel
def mc9_5 : List (Nat × Instr × Nat × Nat) := [(108, .iaload, 1, 0), (109, .iastore, 1, 0), (110, .aload_n 0, 1, 0), (111, .iload_n 1, 1, 0), (112, .iconst 1, 1, 0), (113, .iload_n 2, 1, 0), (114, .invokevirtual 149, 3, 0), (117, .goto 11, 3, 128), (120, .aload_n 0, 1, 0), (121, .getfield 62, 3, 0), (124, .iload 6, 2, 0), (126, .iload_n 1, 1, 0)]
theorem mk9_5 : (mc9_5).all (m_okI prog_2_method_10_code) = true := by decide +kernel
def mc9_6 : List (Nat × Instr × Nat × Nat) := [(127, .iastore, 1, 0), (128, .iconst 1, 1, 0), (129, .ireturn, 1, 0), (130, .iinc 5 1, 3, 0), (133, .goto (-108), 3, 25), (136, .iconst 0, 1, 0), (137, .ireturn, 1, 0)]
theorem mk9_6 : (mc9_6).all (m_okI prog_2_method_10_code) = true := by decide +kernel
def mc9 : List (Nat × List (Nat × Instr × Nat × Nat)) := [(20, mc9_0), (43, mc9_1), (63, mc9_2), (84, mc9_3), (107, mc9_4), (127, mc9_5), (138, mc9_6)]
theorem mk9 : ∀ c ∈ mc9, c.2.all (m_okI prog_2_method_10_code) = true := by
  simp only [mc9, List.forall_mem_cons, List.not_mem_nil, false_implies, implies_true, and_true]
  exact ⟨mk9_0, mk9_1, mk9_2, mk9_3, mk9_4, mk9_5, mk9_6⟩
/-- EscapeCells$Flight.mayEnter(II)Z -/
def mc10_0 : List (Nat × Instr × Nat × Nat) := [(0, .aload_n 0, 1, 0), (1, .getfield 62, 3, 0), (4, .iload_n 1, 1, 0), (5, .iaload, 1, 0), (6, .iconst (-1), 1, 0), (7, .if_icmp .ne 15, 3, 22), (10, .aload_n 0, 1, 0), (11, .getfield 9, 3, 0), (14, .iload_n 1, 1, 0), (15, .iload_n 2, 1, 0), (16, .invokevirtual 145, 3, 0), (19, .ifCond .eq 5, 3, 24)]
theorem mk10_0 : (mc10_0).all (m_okI prog_2_method_11_code) = true := by decide +kernel
def mc10_1 : List (Nat × Instr × Nat × Nat) := [(22, .iconst 0, 1, 0), (23, .ireturn, 1, 0), (24, .aload_n 0, 1, 0), (25, .getfield 9, 3, 0), (28, .iload_n 1, 1, 0), (29, .invokevirtual 174, 3, 0), (32, .ifCond .eq 21, 3, 53), (35, .aload_n 0, 1, 0), (36, .iload_n 1, 1, 0), (37, .iload_n 2, 1, 0), (38, .invokevirtual 177, 3, 0), (41, .aload_n 0, 1, 0)]
theorem mk10_1 : (mc10_1).all (m_okI prog_2_method_11_code) = true := by decide +kernel
def mc10_2 : List (Nat × Instr × Nat × Nat) := [(42, .getfield 9, 3, 0), (45, .getfield 180, 3, 0), (48, .iload_n 1, 1, 0), (49, .iaload, 1, 0), (50, .if_icmp .ge 7, 3, 57), (53, .iconst 1, 1, 0), (54, .goto 4, 3, 58), (57, .iconst 0, 1, 0), (58, .ireturn, 1, 0)]
theorem mk10_2 : (mc10_2).all (m_okI prog_2_method_11_code) = true := by decide +kernel
def mc10 : List (Nat × List (Nat × Instr × Nat × Nat)) := [(20, mc10_0), (42, mc10_1), (59, mc10_2)]
theorem mk10 : ∀ c ∈ mc10, c.2.all (m_okI prog_2_method_11_code) = true := by
  simp only [mc10, List.forall_mem_cons, List.not_mem_nil, false_implies, implies_true, and_true]
  exact ⟨mk10_0, mk10_1, mk10_2⟩
/-- EscapeCells$Flight.cameIn(II)I -/
def mc11_0 : List (Nat × Instr × Nat × Nat) := [(0, .aload_n 0, 1, 0), (1, .getfield 68, 3, 0), (4, .iload_n 1, 1, 0), (5, .iaload, 1, 0), (6, .iload_n 2, 1, 0), (7, .if_icmp .ne 12, 3, 19), (10, .aload_n 0, 1, 0), (11, .getfield 65, 3, 0), (14, .iload_n 1, 1, 0), (15, .iaload, 1, 0), (16, .goto 4, 3, 20), (19, .iconst 0, 1, 0)]
theorem mk11_0 : (mc11_0).all (m_okI prog_2_method_12_code) = true := by decide +kernel
def mc11_1 : List (Nat × Instr × Nat × Nat) := [(20, .ireturn, 1, 0)]
theorem mk11_1 : (mc11_1).all (m_okI prog_2_method_12_code) = true := by decide +kernel
def mc11 : List (Nat × List (Nat × Instr × Nat × Nat)) := [(20, mc11_0), (21, mc11_1)]
theorem mk11 : ∀ c ∈ mc11, c.2.all (m_okI prog_2_method_12_code) = true := by
  simp only [mc11, List.forall_mem_cons, List.not_mem_nil, false_implies, implies_true, and_true]
  exact ⟨mk11_0, mk11_1⟩
/-- EscapeCells$Flight.move(III)V -/
def mc12_0 : List (Nat × Instr × Nat × Nat) := [(0, .aload_n 0, 1, 0), (1, .getfield 65, 3, 0), (4, .iload_n 2, 1, 0), (5, .aload_n 0, 1, 0), (6, .iload_n 2, 1, 0), (7, .iload_n 3, 1, 0), (8, .invokevirtual 177, 3, 0), (11, .iconst 1, 1, 0), (12, .iadd, 1, 0), (13, .iastore, 1, 0), (14, .aload_n 0, 1, 0), (15, .getfield 68, 3, 0)]
theorem mk12_0 : (mc12_0).all (m_okI prog_2_method_13_code) = true := by decide +kernel
def mc12_1 : List (Nat × Instr × Nat × Nat) := [(18, .iload_n 2, 1, 0), (19, .iload_n 3, 1, 0), (20, .iastore, 1, 0), (21, .aload_n 0, 1, 0), (22, .getfield 42, 3, 0), (25, .iload_n 2, 1, 0), (26, .dup2, 1, 0), (27, .iaload, 1, 0), (28, .iconst 1, 1, 0), (29, .iadd, 1, 0), (30, .iastore, 1, 0), (31, .aload_n 0, 1, 0)]
theorem mk12_1 : (mc12_1).all (m_okI prog_2_method_13_code) = true := by decide +kernel
def mc12_2 : List (Nat × Instr × Nat × Nat) := [(32, .getfield 62, 3, 0), (35, .aload_n 0, 1, 0), (36, .getfield 45, 3, 0), (39, .iload_n 1, 1, 0), (40, .iaload, 1, 0), (41, .iconst (-1), 1, 0), (42, .iastore, 1, 0), (43, .aload_n 0, 1, 0), (44, .getfield 45, 3, 0), (47, .iload_n 1, 1, 0), (48, .iload_n 2, 1, 0), (49, .iastore, 1, 0)]
theorem mk12_2 : (mc12_2).all (m_okI prog_2_method_13_code) = true := by decide +kernel
def mc12_3 : List (Nat × Instr × Nat × Nat) := [(50, .aload_n 0, 1, 0), (51, .getfield 51, 3, 0), (54, .iload_n 1, 1, 0), (55, .iload_n 3, 1, 0), (56, .aload_n 0, 1, 0), (57, .getfield 19, 3, 0), (60, .getfield 127, 3, 0), (63, .iload_n 1, 1, 0), (64, .iaload, 1, 0), (65, .iadd, 1, 0), (66, .iastore, 1, 0), (67, .aload_n 0, 1, 0)]
theorem mk12_3 : (mc12_3).all (m_okI prog_2_method_13_code) = true := by decide +kernel
def mc12_4 : List (Nat × Instr × Nat × Nat) := [(68, .getfield 33, 3, 0), (71, .iload_n 1, 1, 0), (72, .iaload, 1, 0), (73, .istore 4, 2, 0), (75, .iload 4, 2, 0), (77, .aload_n 0, 1, 0), (78, .getfield 9, 3, 0), (81, .getfield 36, 3, 0), (84, .if_icmp .ge 33, 3, 117), (87, .aload_n 0, 1, 0), (88, .getfield 56, 3, 0), (91, .iload_n 1, 1, 0)]
theorem mk12_4 : (mc12_4).all (m_okI prog_2_method_13_code) = true := by decide +kernel
def mc12_5 : List (Nat × Instr × Nat × Nat) := [(92, .aaload, 1, 0), (93, .iload 4, 2, 0), (95, .iload_n 3, 1, 0), (96, .iastore, 1, 0), (97, .aload_n 0, 1, 0), (98, .getfield 59, 3, 0), (101, .iload_n 1, 1, 0), (102, .aaload, 1, 0), (103, .iload 4, 2, 0), (105, .iload_n 2, 1, 0), (106, .iastore, 1, 0), (107, .aload_n 0, 1, 0)]
theorem mk12_5 : (mc12_5).all (m_okI prog_2_method_13_code) = true := by decide +kernel
def mc12_6 : List (Nat × Instr × Nat × Nat) := [(108, .getfield 33, 3, 0), (111, .iload_n 1, 1, 0), (112, .iload 4, 2, 0), (114, .iconst 1, 1, 0), (115, .iadd, 1, 0), (116, .iastore, 1, 0), (117, .return_, 1, 0)]
theorem mk12_6 : (mc12_6).all (m_okI prog_2_method_13_code) = true := by decide +kernel
def mc12 : List (Nat × List (Nat × Instr × Nat × Nat)) := [(16, mc12_0), (32, mc12_1), (50, mc12_2), (68, mc12_3), (92, mc12_4), (108, mc12_5), (118, mc12_6)]
theorem mk12 : ∀ c ∈ mc12, c.2.all (m_okI prog_2_method_13_code) = true := by
  simp only [mc12, List.forall_mem_cons, List.not_mem_nil, false_implies, implies_true, and_true]
  exact ⟨mk12_0, mk12_1, mk12_2, mk12_3, mk12_4, mk12_5, mk12_6⟩
/-- EscapeCells$Flight.end(III)V -/
def mc13_0 : List (Nat × Instr × Nat × Nat) := [(0, .aload_n 0, 1, 0), (1, .getfield 23, 3, 0), (4, .iload_n 1, 1, 0), (5, .iload_n 2, 1, 0), (6, .iastore, 1, 0), (7, .aload_n 0, 1, 0), (8, .getfield 27, 3, 0), (11, .iload_n 1, 1, 0), (12, .iload_n 3, 1, 0), (13, .iastore, 1, 0), (14, .aload_n 0, 1, 0), (15, .dup, 1, 0)]
theorem mk13_0 : (mc13_0).all (m_okI prog_2_method_14_code) = true := by decide +kernel
def mc13_1 : List (Nat × Instr × Nat × Nat) := [(16, .getfield 74, 3, 0), (19, .iconst 1, 1, 0), (20, .isub, 1, 0), (21, .putfield 74, 3, 0), (24, .return_, 1, 0)]
theorem mk13_1 : (mc13_1).all (m_okI prog_2_method_14_code) = true := by decide +kernel
def mc13 : List (Nat × List (Nat × Instr × Nat × Nat)) := [(16, mc13_0), (25, mc13_1)]
theorem mk13 : ∀ c ∈ mc13, c.2.all (m_okI prog_2_method_14_code) = true := by
  simp only [mc13, List.forall_mem_cons, List.not_mem_nil, false_implies, implies_true, and_true]
  exact ⟨mk13_0, mk13_1⟩
/-- EscapeCells$Flight.isInCellBehind(II)Z -/
def mc14_0 : List (Nat × Instr × Nat × Nat) := [(0, .aload_n 0, 1, 0), (1, .getfield 23, 3, 0), (4, .iload_n 1, 1, 0), (5, .iaload, 1, 0), (6, .ifCond .eq 13, 3, 19), (9, .aload_n 0, 1, 0), (10, .getfield 27, 3, 0), (13, .iload_n 1, 1, 0), (14, .iaload, 1, 0), (15, .iload_n 2, 1, 0), (16, .if_icmp .le 7, 3, 23), (19, .iconst 1, 1, 0)]
theorem mk14_0 : (mc14_0).all (m_okI prog_2_method_15_code) = true := by decide +kernel
def mc14_1 : List (Nat × Instr × Nat × Nat) := [(20, .goto 4, 3, 24), (23, .iconst 0, 1, 0), (24, .ireturn, 1, 0)]
theorem mk14_1 : (mc14_1).all (m_okI prog_2_method_15_code) = true := by decide +kernel
def mc14 : List (Nat × List (Nat × Instr × Nat × Nat)) := [(20, mc14_0), (25, mc14_1)]
theorem mk14 : ∀ c ∈ mc14, c.2.all (m_okI prog_2_method_15_code) = true := by
  simp only [mc14, List.forall_mem_cons, List.not_mem_nil, false_implies, implies_true, and_true]
  exact ⟨mk14_0, mk14_1⟩
