/-- EscapeCells$Storey.<init>(II)V -/
def mc36_0 : List (Nat × Instr × Nat × Nat) := [(0, .aload_n 0, 1, 0), (1, .invokespecial 3, 3, 0), (4, .aload_n 0, 1, 0), (5, .iload_n 1, 1, 0), (6, .putfield 9, 3, 0), (9, .aload_n 0, 1, 0), (10, .iload_n 2, 1, 0), (11, .putfield 15, 3, 0), (14, .aload_n 0, 1, 0), (15, .iload_n 1, 1, 0), (16, .iload_n 2, 1, 0), (17, .imul, 1, 0)]
theorem mk36_0 : (mc36_0).all (m_okI prog_6_method_1_code) = true := by decide +kernel
def mc36_1 : List (Nat × Instr × Nat × Nat) := [(18, .putfield 18, 3, 0), (21, .aload_n 0, 1, 0), (22, .aload_n 0, 1, 0), (23, .getfield 18, 3, 0), (26, .newarray .int, 2, 0), (28, .putfield 21, 3, 0), (31, .aload_n 0, 1, 0), (32, .aload_n 0, 1, 0), (33, .getfield 18, 3, 0), (36, .newarray .int, 2, 0), (38, .putfield 25, 3, 0), (41, .aload_n 0, 1, 0)]
theorem mk36_1 : (mc36_1).all (m_okI prog_6_method_1_code) = true := by decide +kernel
def mc36_2 : List (Nat × Instr × Nat × Nat) := [(42, .aload_n 0, 1, 0), (43, .getfield 18, 3, 0), (46, .newarray .int, 2, 0), (48, .putfield 28, 3, 0), (51, .aload_n 0, 1, 0), (52, .aload_n 0, 1, 0), (53, .getfield 18, 3, 0), (56, .newarray .int, 2, 0), (58, .putfield 31, 3, 0), (61, .aload_n 0, 1, 0), (62, .bipush 8, 2, 0), (64, .newarray .int, 2, 0)]
theorem mk36_2 : (mc36_2).all (m_okI prog_6_method_1_code) = true := by decide +kernel
def mc36_3 : List (Nat × Instr × Nat × Nat) := [(66, .putfield 34, 3, 0), (69, .aload_n 0, 1, 0), (70, .aload_n 0, 1, 0), (71, .getfield 18, 3, 0), (74, .newarray .int, 2, 0), (76, .putfield 37, 3, 0), (79, .aload_n 0, 1, 0), (80, .aload_n 0, 1, 0), (81, .getfield 18, 3, 0), (84, .newarray .int, 2, 0), (86, .putfield 40, 3, 0), (89, .aload_n 0, 1, 0)]
theorem mk36_3 : (mc36_3).all (m_okI prog_6_method_1_code) = true := by decide +kernel
def mc36_4 : List (Nat × Instr × Nat × Nat) := [(90, .aload_n 0, 1, 0), (91, .getfield 18, 3, 0), (94, .iconst 4, 1, 0), (95, .imul, 1, 0), (96, .newarray .int, 2, 0), (98, .putfield 43, 3, 0), (101, .aload_n 0, 1, 0), (102, .iconst 0, 1, 0), (103, .putfield 46, 3, 0), (106, .aload_n 0, 1, 0), (107, .getfield 28, 3, 0), (110, .iconst (-1), 1, 0)]
theorem mk36_4 : (mc36_4).all (m_okI prog_6_method_1_code) = true := by decide +kernel
def mc36_5 : List (Nat × Instr × Nat × Nat) := [(111, .invokestatic 49, 3, 0), (114, .aload_n 0, 1, 0), (115, .getfield 31, 3, 0), (118, .iconst (-1), 1, 0), (119, .invokestatic 49, 3, 0), (122, .aload_n 0, 1, 0), (123, .getfield 34, 3, 0), (126, .iconst (-1), 1, 0), (127, .invokestatic 49, 3, 0), (130, .iconst 0, 1, 0), (131, .istore_n 3, 1, 0), (132, .iload_n 3, 1, 0)]
theorem mk36_5 : (mc36_5).all (m_okI prog_6_method_1_code) = true := by decide +kernel
def mc36_6 : List (Nat × Instr × Nat × Nat) := [(133, .iload_n 2, 1, 0), (134, .if_icmp .ge 31, 3, 165), (137, .iconst 0, 1, 0), (138, .istore 4, 2, 0), (140, .iload 4, 2, 0), (142, .iload_n 1, 1, 0), (143, .if_icmp .ge 16, 3, 159), (146, .aload_n 0, 1, 0), (147, .iload 4, 2, 0), (149, .iload_n 3, 1, 0), (150, .invokevirtual 55, 3, 0), (153, .iinc 4 1, 3, 0)]
theorem mk36_6 : (mc36_6).all (m_okI prog_6_method_1_code) = true := by decide +kernel
def mc36_7 : List (Nat × Instr × Nat × Nat) := [(156, .goto (-16), 3, 140), (159, .iinc 3 1, 3, 0), (162, .goto (-30), 3, 132), (165, .return_, 1, 0)]
theorem mk36_7 : (mc36_7).all (m_okI prog_6_method_1_code) = true := by decide +kernel
def mc36 : List (Nat × List (Nat × Instr × Nat × Nat)) := [(18, mc36_0), (42, mc36_1), (65, mc36_2), (90, mc36_3), (111, mc36_4), (133, mc36_5), (154, mc36_6), (166, mc36_7)]
theorem mk36 : ∀ c ∈ mc36, c.2.all (m_okI prog_6_method_1_code) = true := by
  simp only [mc36, List.forall_mem_cons, List.not_mem_nil, false_implies, implies_true, and_true]
  exact ⟨mk36_0, mk36_1, mk36_2, mk36_3, mk36_4, mk36_5, mk36_6, mk36_7⟩
/-- EscapeCells$Storey.layCell(II)V -/
def mc37_0 : List (Nat × Instr × Nat × Nat) := [(0, .iload_n 2, 1, 0), (1, .aload_n 0, 1, 0), (2, .getfield 9, 3, 0), (5, .imul, 1, 0), (6, .iload_n 1, 1, 0), (7, .iadd, 1, 0), (8, .istore_n 3, 1, 0), (9, .aload_n 0, 1, 0), (10, .getfield 37, 3, 0), (13, .iload_n 3, 1, 0), (14, .iload_n 1, 1, 0), (15, .iastore, 1, 0)]
theorem mk37_0 : (mc37_0).all (m_okI prog_6_method_2_code) = true := by decide +kernel
def mc37_1 : List (Nat × Instr × Nat × Nat) := [(16, .aload_n 0, 1, 0), (17, .getfield 40, 3, 0), (20, .iload_n 3, 1, 0), (21, .iload_n 2, 1, 0), (22, .iastore, 1, 0), (23, .iconst 0, 1, 0), (24, .istore 4, 2, 0), (26, .iload 4, 2, 0), (28, .iconst 4, 1, 0), (29, .if_icmp .ge 40, 3, 69), (32, .aload_n 0, 1, 0), (33, .getfield 43, 3, 0)]
theorem mk37_1 : (mc37_1).all (m_okI prog_6_method_2_code) = true := by decide +kernel
def mc37_2 : List (Nat × Instr × Nat × Nat) := [(36, .iload_n 3, 1, 0), (37, .iconst 4, 1, 0), (38, .imul, 1, 0), (39, .iload 4, 2, 0), (41, .iadd, 1, 0), (42, .aload_n 0, 1, 0), (43, .iload_n 1, 1, 0), (44, .getstatic 59, 3, 0), (47, .iload 4, 2, 0), (49, .iaload, 1, 0), (50, .iadd, 1, 0), (51, .iload_n 2, 1, 0)]
theorem mk37_2 : (mc37_2).all (m_okI prog_6_method_2_code) = true := by decide +kernel
def mc37_3 : List (Nat × Instr × Nat × Nat) := [(52, .getstatic 62, 3, 0), (55, .iload 4, 2, 0), (57, .iaload, 1, 0), (58, .iadd, 1, 0), (59, .invokevirtual 65, 3, 0), (62, .iastore, 1, 0), (63, .iinc 4 1, 3, 0), (66, .goto (-40), 3, 26), (69, .return_, 1, 0)]
theorem mk37_3 : (mc37_3).all (m_okI prog_6_method_2_code) = true := by decide +kernel
def mc37 : List (Nat × List (Nat × Instr × Nat × Nat)) := [(16, mc37_0), (34, mc37_1), (52, mc37_2), (70, mc37_3)]
theorem mk37 : ∀ c ∈ mc37, c.2.all (m_okI prog_6_method_2_code) = true := by
  simp only [mc37, List.forall_mem_cons, List.not_mem_nil, false_implies, implies_true, and_true]
  exact ⟨mk37_0, mk37_1, mk37_2, mk37_3⟩
/-- EscapeCells$Storey.cellOf(II)I -/
def mc38_0 : List (Nat × Instr × Nat × Nat) := [(0, .iload_n 1, 1, 0), (1, .ifCond .lt 23, 3, 24), (4, .iload_n 1, 1, 0), (5, .aload_n 0, 1, 0), (6, .getfield 9, 3, 0), (9, .if_icmp .ge 15, 3, 24), (12, .iload_n 2, 1, 0), (13, .ifCond .lt 11, 3, 24), (16, .iload_n 2, 1, 0), (17, .aload_n 0, 1, 0), (18, .getfield 15, 3, 0), (21, .if_icmp .lt 7, 3, 28)]
theorem mk38_0 : (mc38_0).all (m_okI prog_6_method_3_code) = true := by decide +kernel
def mc38_1 : List (Nat × Instr × Nat × Nat) := [(24, .iconst (-1), 1, 0), (25, .goto 11, 3, 36), (28, .iload_n 2, 1, 0), (29, .aload_n 0, 1, 0), (30, .getfield 9, 3, 0), (33, .imul, 1, 0), (34, .iload_n 1, 1, 0), (35, .iadd, 1, 0), (36, .ireturn, 1, 0)]
theorem mk38_1 : (mc38_1).all (m_okI prog_6_method_3_code) = true := by decide +kernel
def mc38 : List (Nat × List (Nat × Instr × Nat × Nat)) := [(22, mc38_0), (37, mc38_1)]
theorem mk38 : ∀ c ∈ mc38, c.2.all (m_okI prog_6_method_3_code) = true := by
  simp only [mc38, List.forall_mem_cons, List.not_mem_nil, false_implies, implies_true, and_true]
  exact ⟨mk38_0, mk38_1⟩
/-- EscapeCells$Storey.openBeside(II)I -/
def mc39_0 : List (Nat × Instr × Nat × Nat) := [(0, .aload_n 0, 1, 0), (1, .getfield 43, 3, 0), (4, .iload_n 1, 1, 0), (5, .iconst 4, 1, 0), (6, .imul, 1, 0), (7, .iload_n 2, 1, 0), (8, .iadd, 1, 0), (9, .iaload, 1, 0), (10, .istore_n 3, 1, 0), (11, .iload_n 3, 1, 0), (12, .iconst (-1), 1, 0), (13, .if_icmp .eq 11, 3, 24)]
theorem mk39_0 : (mc39_0).all (m_okI prog_6_method_4_code) = true := by decide +kernel
def mc39_1 : List (Nat × Instr × Nat × Nat) := [(16, .aload_n 0, 1, 0), (17, .iload_n 3, 1, 0), (18, .invokevirtual 69, 3, 0), (21, .ifCond .eq 7, 3, 28), (24, .iconst (-1), 1, 0), (25, .goto 4, 3, 29), (28, .iload_n 3, 1, 0), (29, .ireturn, 1, 0)]
theorem mk39_1 : (mc39_1).all (m_okI prog_6_method_4_code) = true := by decide +kernel
def mc39 : List (Nat × List (Nat × Instr × Nat × Nat)) := [(14, mc39_0), (30, mc39_1)]
theorem mk39 : ∀ c ∈ mc39, c.2.all (m_okI prog_6_method_4_code) = true := by
  simp only [mc39, List.forall_mem_cons, List.not_mem_nil, false_implies, implies_true, and_true]
  exact ⟨mk39_0, mk39_1⟩
/-- EscapeCells$Storey.isWall(I)Z -/
def mc40_0 : List (Nat × Instr × Nat × Nat) := [(0, .aload_n 0, 1, 0), (1, .getfield 21, 3, 0), (4, .iload_n 1, 1, 0), (5, .iaload, 1, 0), (6, .iconst 1, 1, 0), (7, .if_icmp .ne 7, 3, 14), (10, .iconst 1, 1, 0), (11, .goto 4, 3, 15), (14, .iconst 0, 1, 0), (15, .ireturn, 1, 0)]
theorem mk40_0 : (mc40_0).all (m_okI prog_6_method_5_code) = true := by decide +kernel
def mc40 : List (Nat × List (Nat × Instr × Nat × Nat)) := [(16, mc40_0)]
theorem mk40 : ∀ c ∈ mc40, c.2.all (m_okI prog_6_method_5_code) = true := by
  simp only [mc40, List.forall_mem_cons, List.not_mem_nil, false_implies, implies_true, and_true]
  exact mk40_0
/-- EscapeCells$Storey.isExit(I)Z -/
def mc41_0 : List (Nat × Instr × Nat × Nat) := [(0, .aload_n 0, 1, 0), (1, .getfield 21, 3, 0), (4, .iload_n 1, 1, 0), (5, .iaload, 1, 0), (6, .iconst 2, 1, 0), (7, .if_icmp .ne 7, 3, 14), (10, .iconst 1, 1, 0), (11, .goto 4, 3, 15), (14, .iconst 0, 1, 0), (15, .ireturn, 1, 0)]
theorem mk41_0 : (mc41_0).all (m_okI prog_6_method_6_code) = true := by decide +kernel
def mc41 : List (Nat × List (Nat × Instr × Nat × Nat)) := [(16, mc41_0)]
theorem mk41 : ∀ c ∈ mc41, c.2.all (m_okI prog_6_method_6_code) = true := by
  simp only [mc41, List.forall_mem_cons, List.not_mem_nil, false_implies, implies_true, and_true]
  exact mk41_0
/-- EscapeCells$Storey.hasRate(I)Z -/
def mc42_0 : List (Nat × Instr × Nat × Nat) := [(0, .aload_n 0, 1, 0), (1, .getfield 21, 3, 0), (4, .iload_n 1, 1, 0), (5, .iaload, 1, 0), (6, .iconst 2, 1, 0), (7, .if_icmp .eq 13, 3, 20), (10, .aload_n 0, 1, 0), (11, .getfield 21, 3, 0), (14, .iload_n 1, 1, 0), (15, .iaload, 1, 0), (16, .iconst 3, 1, 0), (17, .if_icmp .ne 7, 3, 24)]
theorem mk42_0 : (mc42_0).all (m_okI prog_6_method_7_code) = true := by decide +kernel
def mc42_1 : List (Nat × Instr × Nat × Nat) := [(20, .iconst 1, 1, 0), (21, .goto 4, 3, 25), (24, .iconst 0, 1, 0), (25, .ireturn, 1, 0)]
theorem mk42_1 : (mc42_1).all (m_okI prog_6_method_7_code) = true := by decide +kernel
def mc42 : List (Nat × List (Nat × Instr × Nat × Nat)) := [(18, mc42_0), (26, mc42_1)]
theorem mk42 : ∀ c ∈ mc42, c.2.all (m_okI prog_6_method_7_code) = true := by
  simp only [mc42, List.forall_mem_cons, List.not_mem_nil, false_implies, implies_true, and_true]
  exact ⟨mk42_0, mk42_1⟩
/-- EscapeCells$Storey.isBarred(II)Z -/
def mc43_0 : List (Nat × Instr × Nat × Nat) := [(0, .aload_n 0, 1, 0), (1, .getfield 28, 3, 0), (4, .iload_n 1, 1, 0), (5, .iaload, 1, 0), (6, .iconst (-1), 1, 0), (7, .if_icmp .eq 17, 3, 24), (10, .aload_n 0, 1, 0), (11, .getfield 28, 3, 0), (14, .iload_n 1, 1, 0), (15, .iaload, 1, 0), (16, .iload_n 2, 1, 0), (17, .if_icmp .gt 7, 3, 24)]
theorem mk43_0 : (mc43_0).all (m_okI prog_6_method_8_code) = true := by decide +kernel
def mc43_1 : List (Nat × Instr × Nat × Nat) := [(20, .iconst 1, 1, 0), (21, .goto 4, 3, 25), (24, .iconst 0, 1, 0), (25, .ireturn, 1, 0)]
theorem mk43_1 : (mc43_1).all (m_okI prog_6_method_8_code) = true := by decide +kernel
def mc43 : List (Nat × List (Nat × Instr × Nat × Nat)) := [(18, mc43_0), (26, mc43_1)]
theorem mk43 : ∀ c ∈ mc43, c.2.all (m_okI prog_6_method_8_code) = true := by
  simp only [mc43, List.forall_mem_cons, List.not_mem_nil, false_implies, implies_true, and_true]
  exact ⟨mk43_0, mk43_1⟩
/-- EscapeCells$Storey.isExitNumberOrNone(I)Z -/
def mc44_0 : List (Nat × Instr × Nat × Nat) := [(0, .iload_n 1, 1, 0), (1, .iconst (-1), 1, 0), (2, .if_icmp .lt 15, 3, 17), (5, .iload_n 1, 1, 0), (6, .aload_n 0, 1, 0), (7, .getfield 46, 3, 0), (10, .if_icmp .ge 7, 3, 17), (13, .iconst 1, 1, 0), (14, .goto 4, 3, 18), (17, .iconst 0, 1, 0), (18, .ireturn, 1, 0)]
theorem mk44_0 : (mc44_0).all (m_okI prog_6_method_9_code) = true := by decide +kernel
def mc44 : List (Nat × List (Nat × Instr × Nat × Nat)) := [(19, mc44_0)]
theorem mk44 : ∀ c ∈ mc44, c.2.all (m_okI prog_6_method_9_code) = true := by
  simp only [mc44, List.forall_mem_cons, List.not_mem_nil, false_implies, implies_true, and_true]
  exact mk44_0
/-- EscapeCells$Storey.makeWall(I)V -/
def mc45_0 : List (Nat × Instr × Nat × Nat) := [(0, .aload_n 0, 1, 0), (1, .getfield 31, 3, 0), (4, .iload_n 1, 1, 0), (5, .iaload, 1, 0), (6, .istore_n 2, 1, 0), (7, .iload_n 2, 1, 0), (8, .iconst (-1), 1, 0), (9, .if_icmp .eq 17, 3, 26), (12, .aload_n 0, 1, 0), (13, .getfield 34, 3, 0), (16, .iload_n 2, 1, 0), (17, .iconst (-1), 1, 0)]
theorem mk45_0 : (mc45_0).all (m_okI prog_6_method_10_code) = true := by decide +kernel
def mc45_1 : List (Nat × Instr × Nat × Nat) := [(18, .iastore, 1, 0), (19, .aload_n 0, 1, 0), (20, .getfield 31, 3, 0), (23, .iload_n 1, 1, 0), (24, .iconst (-1), 1, 0), (25, .iastore, 1, 0), (26, .aload_n 0, 1, 0), (27, .getfield 21, 3, 0), (30, .iload_n 1, 1, 0), (31, .iconst 1, 1, 0), (32, .iastore, 1, 0), (33, .return_, 1, 0)]
theorem mk45_1 : (mc45_1).all (m_okI prog_6_method_10_code) = true := by decide +kernel
def mc45 : List (Nat × List (Nat × Instr × Nat × Nat)) := [(18, mc45_0), (34, mc45_1)]
theorem mk45 : ∀ c ∈ mc45, c.2.all (m_okI prog_6_method_10_code) = true := by
  simp only [mc45, List.forall_mem_cons, List.not_mem_nil, false_implies, implies_true, and_true]
  exact ⟨mk45_0, mk45_1⟩
/-- EscapeCells$Storey.makeFree(I)V -/
def mc46_0 : List (Nat × Instr × Nat × Nat) := [(0, .aload_n 0, 1, 0), (1, .getfield 21, 3, 0), (4, .iload_n 1, 1, 0), (5, .iconst 0, 1, 0), (6, .iastore, 1, 0), (7, .return_, 1, 0)]
theorem mk46_0 : (mc46_0).all (m_okI prog_6_method_11_code) = true := by decide +kernel
def mc46 : List (Nat × List (Nat × Instr × Nat × Nat)) := [(8, mc46_0)]
theorem mk46 : ∀ c ∈ mc46, c.2.all (m_okI prog_6_method_11_code) = true := by
  simp only [mc46, List.forall_mem_cons, List.not_mem_nil, false_implies, implies_true, and_true]
  exact mk46_0
/-- EscapeCells$Storey.makeExit(I)V -/
def mc47_0 : List (Nat × Instr × Nat × Nat) := [(0, .aload_n 0, 1, 0), (1, .getfield 46, 3, 0), (4, .bipush 8, 2, 0), (6, .if_icmp .ge 40, 3, 46), (9, .aload_n 0, 1, 0), (10, .getfield 21, 3, 0), (13, .iload_n 1, 1, 0), (14, .iconst 2, 1, 0), (15, .iastore, 1, 0), (16, .aload_n 0, 1, 0), (17, .getfield 31, 3, 0), (20, .iload_n 1, 1, 0)]
theorem mk47_0 : (mc47_0).all (m_okI prog_6_method_12_code) = true := by decide +kernel
def mc47_1 : List (Nat × Instr × Nat × Nat) := [(21, .aload_n 0, 1, 0), (22, .getfield 46, 3, 0), (25, .iastore, 1, 0), (26, .aload_n 0, 1, 0), (27, .getfield 34, 3, 0), (30, .aload_n 0, 1, 0), (31, .getfield 46, 3, 0), (34, .iload_n 1, 1, 0), (35, .iastore, 1, 0), (36, .aload_n 0, 1, 0), (37, .dup, 1, 0), (38, .getfield 46, 3, 0)]
theorem mk47_1 : (mc47_1).all (m_okI prog_6_method_12_code) = true := by decide +kernel
def mc47_2 : List (Nat × Instr × Nat × Nat) := [(41, .iconst 1, 1, 0), (42, .iadd, 1, 0), (43, .putfield 46, 3, 0), (46, .return_, 1, 0)]
theorem mk47_2 : (mc47_2).all (m_okI prog_6_method_12_code) = true := by decide +kernel
def mc47 : List (Nat × List (Nat × Instr × Nat × Nat)) := [(21, mc47_0), (39, mc47_1), (47, mc47_2)]
theorem mk47 : ∀ c ∈ mc47, c.2.all (m_okI prog_6_method_12_code) = true := by
  simp only [mc47, List.forall_mem_cons, List.not_mem_nil, false_implies, implies_true, and_true]
  exact ⟨mk47_0, mk47_1, mk47_2⟩
/-- EscapeCells.<init>(II)V -/
def mc48_0 : List (Nat × Instr × Nat × Nat) := [(0, .aload_n 0, 1, 0), (1, .invokespecial 3, 3, 0), (4, .aload_n 0, 1, 0), (5, .new 9, 3, 0), (8, .dup, 1, 0), (9, .iload_n 1, 1, 0), (10, .invokestatic 11, 3, 0), (13, .iload_n 2, 1, 0), (14, .invokestatic 11, 3, 0), (17, .invokespecial 15, 3, 0), (20, .putfield 18, 3, 0), (23, .aload_n 0, 1, 0)]
theorem mk48_0 : (mc48_0).all (m_okI prog_1_method_1_code) = true := by decide +kernel
def mc48_1 : List (Nat × Instr × Nat × Nat) := [(24, .new 22, 3, 0), (27, .dup, 1, 0), (28, .aload_n 0, 1, 0), (29, .getfield 18, 3, 0), (32, .invokespecial 24, 3, 0), (35, .putfield 27, 3, 0), (38, .aload_n 0, 1, 0), (39, .new 31, 3, 0), (42, .dup, 1, 0), (43, .aload_n 0, 1, 0), (44, .getfield 18, 3, 0), (47, .getfield 33, 3, 0)]
theorem mk48_1 : (mc48_1).all (m_okI prog_1_method_1_code) = true := by decide +kernel
def mc48_2 : List (Nat × Instr × Nat × Nat) := [(50, .invokespecial 37, 3, 0), (53, .putfield 40, 3, 0), (56, .aload_n 0, 1, 0), (57, .new 44, 3, 0), (60, .dup, 1, 0), (61, .aload_n 0, 1, 0), (62, .getfield 18, 3, 0), (65, .aload_n 0, 1, 0), (66, .getfield 27, 3, 0), (69, .aload_n 0, 1, 0), (70, .getfield 40, 3, 0), (73, .invokespecial 46, 3, 0)]
theorem mk48_2 : (mc48_2).all (m_okI prog_1_method_1_code) = true := by decide +kernel
def mc48_3 : List (Nat × Instr × Nat × Nat) := [(76, .putfield 49, 3, 0), (79, .aload_n 0, 1, 0), (80, .new 53, 3, 0), (83, .dup, 1, 0), (84, .aload_n 0, 1, 0), (85, .getfield 18, 3, 0), (88, .invokespecial 55, 3, 0), (91, .putfield 56, 3, 0), (94, .aload_n 0, 1, 0), (95, .iconst 0, 1, 0), (96, .putfield 60, 3, 0), (99, .return_, 1, 0)]
theorem mk48_3 : (mc48_3).all (m_okI prog_1_method_1_code) = true := by decide +kernel
def mc48 : List (Nat × List (Nat × Instr × Nat × Nat)) := [(24, mc48_0), (48, mc48_1), (74, mc48_2), (100, mc48_3)]
theorem mk48 : ∀ c ∈ mc48, c.2.all (m_okI prog_1_method_1_code) = true := by
  simp only [mc48, List.forall_mem_cons, List.not_mem_nil, false_implies, implies_true, and_true]
  exact ⟨mk48_0, mk48_1, mk48_2, mk48_3⟩
/-- EscapeCells.wall(IIZ)Z -/
def mc49_0 : List (Nat × Instr × Nat × Nat) := [(0, .aload_n 0, 1, 0), (1, .getfield 18, 3, 0), (4, .iload_n 1, 1, 0), (5, .iload_n 2, 1, 0), (6, .invokevirtual 64, 3, 0), (9, .istore 4, 2, 0), (11, .iload 4, 2, 0), (13, .iconst (-1), 1, 0), (14, .if_icmp .ne 13, 3, 27), (17, .new 68, 3, 0), (20, .dup, 1, 0), (21, .ldc 70, 2, 0)]
theorem mk49_0 : (mc49_0).all (m_okI prog_1_method_2_code) = true := by decide +kernel
def mc49_1 : List (Nat × Instr × Nat × Nat) := [(23, .invokespecial 72, 3, 0), (26, .athrow, 1, 0), (27, .aload_n 0, 1, 0), (28, .getfield 40, 3, 0), (31, .getfield 75, 3, 0), (34, .iload 4, 2, 0), (36, .iaload, 1, 0), (37, .iconst (-1), 1, 0), (38, .if_icmp .eq 13, 3, 51), (41, .new 79, 3, 0), (44, .dup, 1, 0), (45, .ldc 81, 2, 0)]
theorem mk49_1 : (mc49_1).all (m_okI prog_1_method_2_code) = true := by decide +kernel
def mc49_2 : List (Nat × Instr × Nat × Nat) := [(47, .invokespecial 83, 3, 0), (50, .athrow, 1, 0), (51, .aload_n 0, 1, 0), (52, .getfield 18, 3, 0), (55, .iload 4, 2, 0), (57, .invokevirtual 84, 3, 0), (60, .istore 5, 2, 0), (62, .iload_n 3, 1, 0), (63, .ifCond .eq 15, 3, 78), (66, .aload_n 0, 1, 0), (67, .getfield 18, 3, 0), (70, .iload 4, 2, 0)]
theorem mk49_2 : (mc49_2).all (m_okI prog_1_method_2_code) = true := by decide +kernel
def mc49_3 : List (Nat × Instr × Nat × Nat) := [(72, .invokevirtual 88, 3, 0), (75, .goto 17, 3, 92), (78, .iload 5, 2, 0), (80, .ifCond .eq 12, 3, 92), (83, .aload_n 0, 1, 0), (84, .getfield 18, 3, 0), (87, .iload 4, 2, 0), (89, .invokevirtual 91, 3, 0), (92, .iload 5, 2, 0), (94, .iload_n 3, 1, 0), (95, .if_icmp .eq 10, 3, 105), (98, .aload_n 0, 1, 0)]
theorem mk49_3 : (mc49_3).all (m_okI prog_1_method_2_code) = true := by decide +kernel
def mc49_4 : List (Nat × Instr × Nat × Nat) := [(99, .getfield 27, 3, 0), (102, .invokevirtual 94, 3, 0), (105, .aload_n 0, 1, 0), (106, .iconst 0, 1, 0), (107, .putfield 60, 3, 0), (110, .iload 5, 2, 0), (112, .ireturn, 1, 0)]
theorem mk49_4 : (mc49_4).all (m_okI prog_1_method_2_code) = true := by decide +kernel
def mc49 : List (Nat × List (Nat × Instr × Nat × Nat)) := [(22, mc49_0), (46, mc49_1), (71, mc49_2), (99, mc49_3), (113, mc49_4)]
theorem mk49 : ∀ c ∈ mc49, c.2.all (m_okI prog_1_method_2_code) = true := by
  simp only [mc49, List.forall_mem_cons, List.not_mem_nil, false_implies, implies_true, and_true]
  exact ⟨mk49_0, mk49_1, mk49_2, mk49_3, mk49_4⟩
/-- EscapeCells.exit(III)I -/
def mc50_0 : List (Nat × Instr × Nat × Nat) := [(0, .aload_n 0, 1, 0), (1, .getfield 18, 3, 0), (4, .iload_n 1, 1, 0), (5, .iload_n 2, 1, 0), (6, .invokevirtual 64, 3, 0), (9, .istore 4, 2, 0), (11, .iload 4, 2, 0), (13, .iconst (-1), 1, 0), (14, .if_icmp .eq 12, 3, 26), (17, .iload_n 3, 1, 0), (18, .iconst 1, 1, 0), (19, .iconst 5, 1, 0)]
theorem mk50_0 : (mc50_0).all (m_okI prog_1_method_3_code) = true := by decide +kernel
def mc50_1 : List (Nat × Instr × Nat × Nat) := [(20, .invokestatic 97, 3, 0), (23, .ifCond .ne 13, 3, 36), (26, .new 68, 3, 0), (29, .dup, 1, 0), (30, .ldc 101, 2, 0), (32, .invokespecial 72, 3, 0), (35, .athrow, 1, 0), (36, .aload_n 0, 1, 0), (37, .getfield 18, 3, 0), (40, .iload 4, 2, 0), (42, .invokevirtual 84, 3, 0), (45, .ifCond .ne 17, 3, 62)]
theorem mk50_1 : (mc50_1).all (m_okI prog_1_method_3_code) = true := by decide +kernel
def mc50_2 : List (Nat × Instr × Nat × Nat) := [(48, .aload_n 0, 1, 0), (49, .getfield 40, 3, 0), (52, .getfield 75, 3, 0), (55, .iload 4, 2, 0), (57, .iaload, 1, 0), (58, .iconst (-1), 1, 0), (59, .if_icmp .eq 13, 3, 72), (62, .new 79, 3, 0), (65, .dup, 1, 0), (66, .ldc 103, 2, 0), (68, .invokespecial 83, 3, 0), (71, .athrow, 1, 0)]
theorem mk50_2 : (mc50_2).all (m_okI prog_1_method_3_code) = true := by decide +kernel
def mc50_3 : List (Nat × Instr × Nat × Nat) := [(72, .aload_n 0, 1, 0), (73, .getfield 18, 3, 0), (76, .iload 4, 2, 0), (78, .invokevirtual 105, 3, 0), (81, .ifCond .ne 41, 3, 122), (84, .aload_n 0, 1, 0), (85, .getfield 18, 3, 0), (88, .getfield 108, 3, 0), (91, .bipush 8, 2, 0), (93, .if_icmp .lt 13, 3, 106), (96, .new 79, 3, 0), (99, .dup, 1, 0)]
theorem mk50_3 : (mc50_3).all (m_okI prog_1_method_3_code) = true := by decide +kernel
def mc50_4 : List (Nat × Instr × Nat × Nat) := [(100, .ldc 111, 2, 0), (102, .invokespecial 83, 3, 0), (105, .athrow, 1, 0), (106, .aload_n 0, 1, 0), (107, .getfield 18, 3, 0), (110, .iload 4, 2, 0), (112, .invokevirtual 113, 3, 0), (115, .aload_n 0, 1, 0), (116, .getfield 27, 3, 0), (119, .invokevirtual 94, 3, 0), (122, .aload_n 0, 1, 0), (123, .getfield 18, 3, 0)]
theorem mk50_4 : (mc50_4).all (m_okI prog_1_method_3_code) = true := by decide +kernel
def mc50_5 : List (Nat × Instr × Nat × Nat) := [(126, .getfield 116, 3, 0), (129, .iload 4, 2, 0), (131, .iload_n 3, 1, 0), (132, .iastore, 1, 0), (133, .aload_n 0, 1, 0), (134, .iconst 0, 1, 0), (135, .putfield 60, 3, 0), (138, .aload_n 0, 1, 0), (139, .getfield 18, 3, 0), (142, .getfield 119, 3, 0), (145, .iload 4, 2, 0), (147, .iaload, 1, 0)]
theorem mk50_5 : (mc50_5).all (m_okI prog_1_method_3_code) = true := by decide +kernel
def mc50_6 : List (Nat × Instr × Nat × Nat) := [(148, .ireturn, 1, 0)]
theorem mk50_6 : (mc50_6).all (m_okI prog_1_method_3_code) = true := by decide +kernel
def mc50 : List (Nat × List (Nat × Instr × Nat × Nat)) := [(20, mc50_0), (46, mc50_1), (72, mc50_2), (100, mc50_3), (124, mc50_4), (148, mc50_5), (149, mc50_6)]
theorem mk50 : ∀ c ∈ mc50, c.2.all (m_okI prog_1_method_3_code) = true := by
  simp only [mc50, List.forall_mem_cons, List.not_mem_nil, false_implies, implies_true, and_true]
  exact ⟨mk50_0, mk50_1, mk50_2, mk50_3, mk50_4, mk50_5, mk50_6⟩
/-- EscapeCells.door(III)V -/
def mc51_0 : List (Nat × Instr × Nat × Nat) := [(0, .aload_n 0, 1, 0), (1, .getfield 18, 3, 0), (4, .iload_n 1, 1, 0), (5, .iload_n 2, 1, 0), (6, .invokevirtual 64, 3, 0), (9, .istore 4, 2, 0), (11, .iload 4, 2, 0), (13, .iconst (-1), 1, 0), (14, .if_icmp .eq 12, 3, 26), (17, .iload_n 3, 1, 0), (18, .iconst 1, 1, 0), (19, .iconst 5, 1, 0)]
theorem mk51_0 : (mc51_0).all (m_okI prog_1_method_4_code) = true := by decide +kernel
def mc51_1 : List (Nat × Instr × Nat × Nat) := [(20, .invokestatic 97, 3, 0), (23, .ifCond .ne 13, 3, 36), (26, .new 68, 3, 0), (29, .dup, 1, 0), (30, .ldc 101, 2, 0), (32, .invokespecial 72, 3, 0), (35, .athrow, 1, 0), (36, .aload_n 0, 1, 0), (37, .getfield 18, 3, 0), (40, .iload 4, 2, 0), (42, .invokevirtual 84, 3, 0), (45, .ifCond .ne 15, 3, 60)]
theorem mk51_1 : (mc51_1).all (m_okI prog_1_method_4_code) = true := by decide +kernel
def mc51_2 : List (Nat × Instr × Nat × Nat) := [(48, .aload_n 0, 1, 0), (49, .getfield 18, 3, 0), (52, .iload 4, 2, 0), (54, .invokevirtual 105, 3, 0), (57, .ifCond .eq 13, 3, 70), (60, .new 79, 3, 0), (63, .dup, 1, 0), (64, .ldc 122, 2, 0), (66, .invokespecial 83, 3, 0), (69, .athrow, 1, 0), (70, .aload_n 0, 1, 0), (71, .getfield 18, 3, 0)]
theorem mk51_2 : (mc51_2).all (m_okI prog_1_method_4_code) = true := by decide +kernel
def mc51_3 : List (Nat × Instr × Nat × Nat) := [(74, .getfield 124, 3, 0), (77, .iload 4, 2, 0), (79, .iconst 3, 1, 0), (80, .iastore, 1, 0), (81, .aload_n 0, 1, 0), (82, .getfield 18, 3, 0), (85, .getfield 116, 3, 0), (88, .iload 4, 2, 0), (90, .iload_n 3, 1, 0), (91, .iastore, 1, 0), (92, .aload_n 0, 1, 0), (93, .iconst 0, 1, 0)]
theorem mk51_3 : (mc51_3).all (m_okI prog_1_method_4_code) = true := by decide +kernel
def mc51_4 : List (Nat × Instr × Nat × Nat) := [(94, .putfield 60, 3, 0), (97, .return_, 1, 0)]
theorem mk51_4 : (mc51_4).all (m_okI prog_1_method_4_code) = true := by decide +kernel
def mc51 : List (Nat × List (Nat × Instr × Nat × Nat)) := [(20, mc51_0), (46, mc51_1), (72, mc51_2), (94, mc51_3), (98, mc51_4)]
theorem mk51 : ∀ c ∈ mc51, c.2.all (m_okI prog_1_method_4_code) = true := by
  simp only [mc51, List.forall_mem_cons, List.not_mem_nil, false_implies, implies_true, and_true]
  exact ⟨mk51_0, mk51_1, mk51_2, mk51_3, mk51_4⟩
/-- EscapeCells.smoke(III)I -/
def mc52_0 : List (Nat × Instr × Nat × Nat) := [(0, .aload_n 0, 1, 0), (1, .getfield 18, 3, 0), (4, .iload_n 1, 1, 0), (5, .iload_n 2, 1, 0), (6, .invokevirtual 64, 3, 0), (9, .istore 4, 2, 0), (11, .iload 4, 2, 0), (13, .iconst (-1), 1, 0), (14, .if_icmp .eq 14, 3, 28), (17, .iload_n 3, 1, 0), (18, .iconst (-1), 1, 0), (19, .sipush 3600, 3, 0)]
theorem mk52_0 : (mc52_0).all (m_okI prog_1_method_5_code) = true := by decide +kernel
def mc52_1 : List (Nat × Instr × Nat × Nat) := [(22, .invokestatic 97, 3, 0), (25, .ifCond .ne 13, 3, 38), (28, .new 68, 3, 0), (31, .dup, 1, 0), (32, .ldc 127, 2, 0), (34, .invokespecial 72, 3, 0), (37, .athrow, 1, 0), (38, .aload_n 0, 1, 0), (39, .getfield 18, 3, 0), (42, .getfield 129, 3, 0), (45, .iload 4, 2, 0), (47, .iaload, 1, 0)]
theorem mk52_1 : (mc52_1).all (m_okI prog_1_method_5_code) = true := by decide +kernel
def mc52_2 : List (Nat × Instr × Nat × Nat) := [(48, .istore 5, 2, 0), (50, .aload_n 0, 1, 0), (51, .getfield 18, 3, 0), (54, .getfield 129, 3, 0), (57, .iload 4, 2, 0), (59, .iload_n 3, 1, 0), (60, .iastore, 1, 0), (61, .aload_n 0, 1, 0), (62, .iconst 0, 1, 0), (63, .putfield 60, 3, 0), (66, .iload 5, 2, 0), (68, .ireturn, 1, 0)]
theorem mk52_2 : (mc52_2).all (m_okI prog_1_method_5_code) = true := by decide +kernel
def mc52 : List (Nat × List (Nat × Instr × Nat × Nat)) := [(20, mc52_0), (48, mc52_1), (69, mc52_2)]
theorem mk52 : ∀ c ∈ mc52, c.2.all (m_okI prog_1_method_5_code) = true := by
  simp only [mc52, List.forall_mem_cons, List.not_mem_nil, false_implies, implies_true, and_true]
  exact ⟨mk52_0, mk52_1, mk52_2⟩
/-- EscapeCells.person(IIII)I -/
def mc53_0 : List (Nat × Instr × Nat × Nat) := [(0, .aload_n 0, 1, 0), (1, .getfield 18, 3, 0), (4, .iload_n 1, 1, 0), (5, .iload_n 2, 1, 0), (6, .invokevirtual 64, 3, 0), (9, .istore 5, 2, 0), (11, .iload 5, 2, 0), (13, .iconst (-1), 1, 0), (14, .if_icmp .eq 24, 3, 38), (17, .iload_n 3, 1, 0), (18, .iconst 1, 1, 0), (19, .iconst 5, 1, 0)]
theorem mk53_0 : (mc53_0).all (m_okI prog_1_method_6_code) = true := by decide +kernel
def mc53_1 : List (Nat × Instr × Nat × Nat) := [(20, .invokestatic 97, 3, 0), (23, .ifCond .eq 15, 3, 38), (26, .iload 4, 2, 0), (28, .iconst 0, 1, 0), (29, .sipush 600, 3, 0), (32, .invokestatic 97, 3, 0), (35, .ifCond .ne 13, 3, 48), (38, .new 68, 3, 0), (41, .dup, 1, 0), (42, .ldc 132, 2, 0), (44, .invokespecial 72, 3, 0), (47, .athrow, 1, 0)]
theorem mk53_1 : (mc53_1).all (m_okI prog_1_method_6_code) = true := by decide +kernel
def mc53_2 : List (Nat × Instr × Nat × Nat) := [(48, .aload_n 0, 1, 0), (49, .getfield 18, 3, 0), (52, .iload 5, 2, 0), (54, .invokevirtual 84, 3, 0), (57, .ifCond .ne 15, 3, 72), (60, .aload_n 0, 1, 0), (61, .getfield 18, 3, 0), (64, .iload 5, 2, 0), (66, .invokevirtual 105, 3, 0), (69, .ifCond .eq 13, 3, 82), (72, .new 79, 3, 0), (75, .dup, 1, 0)]
theorem mk53_2 : (mc53_2).all (m_okI prog_1_method_6_code) = true := by decide +kernel
def mc53_3 : List (Nat × Instr × Nat × Nat) := [(76, .ldc 122, 2, 0), (78, .invokespecial 83, 3, 0), (81, .athrow, 1, 0), (82, .aload_n 0, 1, 0), (83, .getfield 40, 3, 0), (86, .getfield 75, 3, 0), (89, .iload 5, 2, 0), (91, .iaload, 1, 0), (92, .iconst (-1), 1, 0), (93, .if_icmp .ne 15, 3, 108), (96, .aload_n 0, 1, 0), (97, .getfield 40, 3, 0)]
theorem mk53_3 : (mc53_3).all (m_okI prog_1_method_6_code) = true := by decide +kernel
def mc53_4 : List (Nat × Instr × Nat × Nat) := [(100, .getfield 134, 3, 0), (103, .bipush 60, 2, 0), (105, .if_icmp .lt 13, 3, 118), (108, .new 79, 3, 0), (111, .dup, 1, 0), (112, .ldc 137, 2, 0), (114, .invokespecial 83, 3, 0), (117, .athrow, 1, 0), (118, .aload_n 0, 1, 0), (119, .iconst 0, 1, 0), (120, .putfield 60, 3, 0), (123, .aload_n 0, 1, 0)]
theorem mk53_4 : (mc53_4).all (m_okI prog_1_method_6_code) = true := by decide +kernel
def mc53_5 : List (Nat × Instr × Nat × Nat) := [(124, .getfield 40, 3, 0), (127, .iload 5, 2, 0), (129, .iload_n 3, 1, 0), (130, .iload 4, 2, 0), (132, .invokevirtual 139, 3, 0), (135, .ireturn, 1, 0)]
theorem mk53_5 : (mc53_5).all (m_okI prog_1_method_6_code) = true := by decide +kernel
def mc53 : List (Nat × List (Nat × Instr × Nat × Nat)) := [(20, mc53_0), (48, mc53_1), (76, mc53_2), (98, mc53_3), (124, mc53_4), (136, mc53_5)]
theorem mk53 : ∀ c ∈ mc53, c.2.all (m_okI prog_1_method_6_code) = true := by
  simp only [mc53, List.forall_mem_cons, List.not_mem_nil, false_implies, implies_true, and_true]
  exact ⟨mk53_0, mk53_1, mk53_2, mk53_3, mk53_4, mk53_5⟩
/-- EscapeCells.habit(II)I -/
def mc54_0 : List (Nat × Instr × Nat × Nat) := [(0, .aload_n 0, 1, 0), (1, .getfield 40, 3, 0), (4, .iload_n 1, 1, 0), (5, .invokevirtual 143, 3, 0), (8, .ifCond .eq 14, 3, 22), (11, .aload_n 0, 1, 0), (12, .getfield 18, 3, 0), (15, .iload_n 2, 1, 0), (16, .invokevirtual 146, 3, 0), (19, .ifCond .ne 13, 3, 32), (22, .new 68, 3, 0), (25, .dup, 1, 0)]
theorem mk54_0 : (mc54_0).all (m_okI prog_1_method_7_code) = true := by decide +kernel
def mc54_1 : List (Nat × Instr × Nat × Nat) := [(26, .ldc 149, 2, 0), (28, .invokespecial 72, 3, 0), (31, .athrow, 1, 0), (32, .aload_n 0, 1, 0), (33, .getfield 40, 3, 0), (36, .getfield 151, 3, 0), (39, .iload_n 1, 1, 0), (40, .iaload, 1, 0), (41, .istore_n 3, 1, 0), (42, .aload_n 0, 1, 0), (43, .getfield 40, 3, 0), (46, .getfield 151, 3, 0)]
theorem mk54_1 : (mc54_1).all (m_okI prog_1_method_7_code) = true := by decide +kernel
def mc54_2 : List (Nat × Instr × Nat × Nat) := [(49, .iload_n 1, 1, 0), (50, .iload_n 2, 1, 0), (51, .iastore, 1, 0), (52, .aload_n 0, 1, 0), (53, .iconst 0, 1, 0), (54, .putfield 60, 3, 0), (57, .iload_n 3, 1, 0), (58, .ireturn, 1, 0)]
theorem mk54_2 : (mc54_2).all (m_okI prog_1_method_7_code) = true := by decide +kernel
def mc54 : List (Nat × List (Nat × Instr × Nat × Nat)) := [(26, mc54_0), (47, mc54_1), (59, mc54_2)]
theorem mk54 : ∀ c ∈ mc54, c.2.all (m_okI prog_1_method_7_code) = true := by
  simp only [mc54, List.forall_mem_cons, List.not_mem_nil, false_implies, implies_true, and_true]
  exact ⟨mk54_0, mk54_1, mk54_2⟩
/-- EscapeCells.ways()I -/
def mc55_0 : List (Nat × Instr × Nat × Nat) := [(0, .aload_n 0, 1, 0), (1, .getfield 27, 3, 0), (4, .iconst (-1), 1, 0), (5, .invokevirtual 154, 3, 0), (8, .astore_n 1, 1, 0), (9, .iconst 0, 1, 0), (10, .istore_n 2, 1, 0), (11, .iconst 0, 1, 0), (12, .istore_n 3, 1, 0), (13, .iload_n 3, 1, 0), (14, .aload_n 1, 1, 0), (15, .arraylength, 1, 0)]
theorem mk55_0 : (mc55_0).all (m_okI prog_1_method_8_code) = true := by decide +kernel
def mc55_1 : List (Nat × Instr × Nat × Nat) := [(16, .if_icmp .ge 19, 3, 35), (19, .aload_n 1, 1, 0), (20, .iload_n 3, 1, 0), (21, .iaload, 1, 0), (22, .iconst (-1), 1, 0), (23, .if_icmp .eq 6, 3, 29), (26, .iinc 2 1, 3, 0), (29, .iinc 3 1, 3, 0), (32, .goto (-19), 3, 13), (35, .iload_n 2, 1, 0), (36, .ireturn, 1, 0)]
theorem mk55_1 : (mc55_1).all (m_okI prog_1_method_8_code) = true := by decide +kernel
def mc55 : List (Nat × List (Nat × Instr × Nat × Nat)) := [(16, mc55_0), (37, mc55_1)]
theorem mk55 : ∀ c ∈ mc55, c.2.all (m_okI prog_1_method_8_code) = true := by
  simp only [mc55, List.forall_mem_cons, List.not_mem_nil, false_implies, implies_true, and_true]
  exact ⟨mk55_0, mk55_1⟩
