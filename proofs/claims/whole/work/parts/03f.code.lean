/-- EscapeCellsModel.second(I)V -/
def mc92_0 : List (Nat × Instr × Nat × Nat) := [(0, .iconst 0, 1, 0), (1, .istore_n 2, 1, 0), (2, .iload_n 2, 1, 0), (3, .sipush 576, 3, 0), (6, .if_icmp .ge 16, 3, 22), (9, .aload_n 0, 1, 0), (10, .getfield 72, 3, 0), (13, .iload_n 2, 1, 0), (14, .iconst 0, 1, 0), (15, .iastore, 1, 0), (16, .iinc 2 1, 3, 0), (19, .goto (-17), 3, 2)]
theorem mk92_0 : (mc92_0).all (m_okI prog_8_method_27_code) = true := by decide +kernel
def mc92_1 : List (Nat × Instr × Nat × Nat) := [(22, .iconst 0, 1, 0), (23, .istore_n 2, 1, 0), (24, .iload_n 2, 1, 0), (25, .aload_n 0, 1, 0), (26, .getfield 91, 3, 0), (29, .if_icmp .ge 72, 3, 101), (32, .aload_n 0, 1, 0), (33, .getfield 75, 3, 0), (36, .iload_n 2, 1, 0), (37, .iconst 0, 1, 0), (38, .bastore, 1, 0), (39, .aload_n 0, 1, 0)]
theorem mk92_1 : (mc92_1).all (m_okI prog_8_method_27_code) = true := by decide +kernel
def mc92_2 : List (Nat × Instr × Nat × Nat) := [(40, .getfield 44, 3, 0), (43, .iload_n 2, 1, 0), (44, .iaload, 1, 0), (45, .ifCond .ne 50, 3, 95), (48, .aload_n 0, 1, 0), (49, .aload_n 0, 1, 0), (50, .getfield 63, 3, 0), (53, .iload_n 2, 1, 0), (54, .iaload, 1, 0), (55, .iload_n 1, 1, 0), (56, .invokevirtual 146, 3, 0), (59, .ifCond .eq 36, 3, 95)]
theorem mk92_2 : (mc92_2).all (m_okI prog_8_method_27_code) = true := by decide +kernel
def mc92_3 : List (Nat × Instr × Nat × Nat) := [(62, .aload_n 0, 1, 0), (63, .getfield 44, 3, 0), (66, .iload_n 2, 1, 0), (67, .iconst 2, 1, 0), (68, .iastore, 1, 0), (69, .aload_n 0, 1, 0), (70, .getfield 47, 3, 0), (73, .iload_n 2, 1, 0), (74, .iload_n 1, 1, 0), (75, .iastore, 1, 0), (76, .aload_n 0, 1, 0), (77, .getfield 66, 3, 0)]
theorem mk92_3 : (mc92_3).all (m_okI prog_8_method_27_code) = true := by decide +kernel
def mc92_4 : List (Nat × Instr × Nat × Nat) := [(80, .aload_n 0, 1, 0), (81, .getfield 63, 3, 0), (84, .iload_n 2, 1, 0), (85, .iaload, 1, 0), (86, .iconst (-1), 1, 0), (87, .iastore, 1, 0), (88, .aload_n 0, 1, 0), (89, .getfield 63, 3, 0), (92, .iload_n 2, 1, 0), (93, .iconst (-1), 1, 0), (94, .iastore, 1, 0), (95, .iinc 2 1, 3, 0)]
theorem mk92_4 : (mc92_4).all (m_okI prog_8_method_27_code) = true := by decide +kernel
def mc92_5 : List (Nat × Instr × Nat × Nat) := [(98, .goto (-74), 3, 24), (101, .aload_n 0, 1, 0), (102, .iload_n 1, 1, 0), (103, .invokevirtual 153, 3, 0), (106, .istore_n 2, 1, 0), (107, .iload_n 2, 1, 0), (108, .ifCond .lt 25, 3, 133), (111, .aload_n 0, 1, 0), (112, .getfield 75, 3, 0), (115, .iload_n 2, 1, 0), (116, .iconst 1, 1, 0), (117, .bastore, 1, 0)]
theorem mk92_5 : (mc92_5).all (m_okI prog_8_method_27_code) = true := by decide +kernel
def mc92_6 : List (Nat × Instr × Nat × Nat) := [(118, .aload_n 0, 1, 0), (119, .iload_n 2, 1, 0), (120, .iload_n 1, 1, 0), (121, .invokevirtual 156, 3, 0), (124, .aload_n 0, 1, 0), (125, .iload_n 1, 1, 0), (126, .invokevirtual 153, 3, 0), (129, .istore_n 2, 1, 0), (130, .goto (-23), 3, 107), (133, .return_, 1, 0)]
theorem mk92_6 : (mc92_6).all (m_okI prog_8_method_27_code) = true := by decide +kernel
def mc92 : List (Nat × List (Nat × Instr × Nat × Nat)) := [(20, mc92_0), (40, mc92_1), (60, mc92_2), (78, mc92_3), (96, mc92_4), (118, mc92_5), (134, mc92_6)]
theorem mk92 : ∀ c ∈ mc92, c.2.all (m_okI prog_8_method_27_code) = true := by
  simp only [mc92, List.forall_mem_cons, List.not_mem_nil, false_implies, implies_true, and_true]
  exact ⟨mk92_0, mk92_1, mk92_2, mk92_3, mk92_4, mk92_5, mk92_6⟩
/-- EscapeCellsModel.anyWaits()Z -/
def mc93_0 : List (Nat × Instr × Nat × Nat) := [(0, .iconst 0, 1, 0), (1, .istore_n 1, 1, 0), (2, .iconst 0, 1, 0), (3, .istore_n 2, 1, 0), (4, .iload_n 2, 1, 0), (5, .aload_n 0, 1, 0), (6, .getfield 91, 3, 0), (9, .if_icmp .ge 28, 3, 37), (12, .iload_n 1, 1, 0), (13, .ifCond .ne 12, 3, 25), (16, .aload_n 0, 1, 0), (17, .getfield 44, 3, 0)]
theorem mk93_0 : (mc93_0).all (m_okI prog_8_method_28_code) = true := by decide +kernel
def mc93_1 : List (Nat × Instr × Nat × Nat) := [(20, .iload_n 2, 1, 0), (21, .iaload, 1, 0), (22, .ifCond .ne 7, 3, 29), (25, .iconst 1, 1, 0), (26, .goto 4, 3, 30), (29, .iconst 0, 1, 0), (30, .istore_n 1, 1, 0), (31, .iinc 2 1, 3, 0), (34, .goto (-30), 3, 4), (37, .iload_n 1, 1, 0), (38, .ireturn, 1, 0)]
theorem mk93_1 : (mc93_1).all (m_okI prog_8_method_28_code) = true := by decide +kernel
def mc93 : List (Nat × List (Nat × Instr × Nat × Nat)) := [(18, mc93_0), (39, mc93_1)]
theorem mk93 : ∀ c ∈ mc93, c.2.all (m_okI prog_8_method_28_code) = true := by
  simp only [mc93, List.forall_mem_cons, List.not_mem_nil, false_implies, implies_true, and_true]
  exact ⟨mk93_0, mk93_1⟩
/-- EscapeCellsModel.run()I -/
def mc94_0 : List (Nat × Instr × Nat × Nat) := [(0, .aload_n 0, 1, 0), (1, .iconst 0, 1, 0), (2, .putfield 88, 3, 0), (5, .aload_n 0, 1, 0), (6, .invokevirtual 132, 3, 0), (9, .iconst 0, 1, 0), (10, .istore_n 1, 1, 0), (11, .iload_n 1, 1, 0), (12, .sipush 576, 3, 0), (15, .if_icmp .ge 23, 3, 38), (18, .aload_n 0, 1, 0), (19, .getfield 66, 3, 0)]
theorem mk94_0 : (mc94_0).all (m_okI prog_8_method_29_code) = true := by decide +kernel
def mc94_1 : List (Nat × Instr × Nat × Nat) := [(22, .iload_n 1, 1, 0), (23, .iconst (-1), 1, 0), (24, .iastore, 1, 0), (25, .aload_n 0, 1, 0), (26, .getfield 69, 3, 0), (29, .iload_n 1, 1, 0), (30, .iconst 0, 1, 0), (31, .iastore, 1, 0), (32, .iinc 1 1, 3, 0), (35, .goto (-24), 3, 11), (38, .iconst 0, 1, 0), (39, .istore_n 1, 1, 0)]
theorem mk94_1 : (mc94_1).all (m_okI prog_8_method_29_code) = true := by decide +kernel
def mc94_2 : List (Nat × Instr × Nat × Nat) := [(40, .iload_n 1, 1, 0), (41, .aload_n 0, 1, 0), (42, .getfield 91, 3, 0), (45, .if_icmp .ge 61, 3, 106), (48, .aload_n 0, 1, 0), (49, .getfield 44, 3, 0), (52, .iload_n 1, 1, 0), (53, .iconst 0, 1, 0), (54, .iastore, 1, 0), (55, .aload_n 0, 1, 0), (56, .getfield 47, 3, 0), (59, .iload_n 1, 1, 0)]
theorem mk94_2 : (mc94_2).all (m_okI prog_8_method_29_code) = true := by decide +kernel
def mc94_3 : List (Nat × Instr × Nat × Nat) := [(60, .iconst (-1), 1, 0), (61, .iastore, 1, 0), (62, .aload_n 0, 1, 0), (63, .getfield 50, 3, 0), (66, .iload_n 1, 1, 0), (67, .iconst (-1), 1, 0), (68, .iastore, 1, 0), (69, .aload_n 0, 1, 0), (70, .getfield 53, 3, 0), (73, .iload_n 1, 1, 0), (74, .iconst 0, 1, 0), (75, .iastore, 1, 0)]
theorem mk94_3 : (mc94_3).all (m_okI prog_8_method_29_code) = true := by decide +kernel
def mc94_4 : List (Nat × Instr × Nat × Nat) := [(76, .aload_n 0, 1, 0), (77, .getfield 63, 3, 0), (80, .iload_n 1, 1, 0), (81, .aload_n 0, 1, 0), (82, .getfield 26, 3, 0), (85, .iload_n 1, 1, 0), (86, .iaload, 1, 0), (87, .iastore, 1, 0), (88, .aload_n 0, 1, 0), (89, .getfield 66, 3, 0), (92, .aload_n 0, 1, 0), (93, .getfield 26, 3, 0)]
theorem mk94_4 : (mc94_4).all (m_okI prog_8_method_29_code) = true := by decide +kernel
def mc94_5 : List (Nat × Instr × Nat × Nat) := [(96, .iload_n 1, 1, 0), (97, .iaload, 1, 0), (98, .iload_n 1, 1, 0), (99, .iastore, 1, 0), (100, .iinc 1 1, 3, 0), (103, .goto (-63), 3, 40), (106, .aload_n 0, 1, 0), (107, .iconst 0, 1, 0), (108, .putfield 160, 3, 0), (111, .aload_n 0, 1, 0), (112, .getfield 160, 3, 0), (115, .sipush 3600, 3, 0)]
theorem mk94_5 : (mc94_5).all (m_okI prog_8_method_29_code) = true := by decide +kernel
def mc94_6 : List (Nat × Instr × Nat × Nat) := [(118, .if_icmp .ge 31, 3, 149), (121, .aload_n 0, 1, 0), (122, .invokevirtual 163, 3, 0), (125, .ifCond .eq 24, 3, 149), (128, .aload_n 0, 1, 0), (129, .dup, 1, 0), (130, .getfield 160, 3, 0), (133, .iconst 1, 1, 0), (134, .iadd, 1, 0), (135, .putfield 160, 3, 0), (138, .aload_n 0, 1, 0), (139, .aload_n 0, 1, 0)]
theorem mk94_6 : (mc94_6).all (m_okI prog_8_method_29_code) = true := by decide +kernel
def mc94_7 : List (Nat × Instr × Nat × Nat) := [(140, .getfield 160, 3, 0), (143, .invokevirtual 167, 3, 0), (146, .goto (-35), 3, 111), (149, .aload_n 0, 1, 0), (150, .iconst 1, 1, 0), (151, .putfield 98, 3, 0), (154, .aload_n 0, 1, 0), (155, .getfield 160, 3, 0), (158, .ireturn, 1, 0)]
theorem mk94_7 : (mc94_7).all (m_okI prog_8_method_29_code) = true := by decide +kernel
def mc94 : List (Nat × List (Nat × Instr × Nat × Nat)) := [(20, mc94_0), (40, mc94_1), (60, mc94_2), (76, mc94_3), (94, mc94_4), (116, mc94_5), (140, mc94_6), (159, mc94_7)]
theorem mk94 : ∀ c ∈ mc94, c.2.all (m_okI prog_8_method_29_code) = true := by
  simp only [mc94, List.forall_mem_cons, List.not_mem_nil, false_implies, implies_true, and_true]
  exact ⟨mk94_0, mk94_1, mk94_2, mk94_3, mk94_4, mk94_5, mk94_6, mk94_7⟩
/-- EscapeCellsModel.told(II)I -/
def mc95_0 : List (Nat × Instr × Nat × Nat) := [(0, .aload_n 0, 1, 0), (1, .iload_n 1, 1, 0), (2, .ifCond .lt 20, 3, 22), (5, .iload_n 1, 1, 0), (6, .aload_n 0, 1, 0), (7, .getfield 91, 3, 0), (10, .if_icmp .ge 12, 3, 22), (13, .iload_n 2, 1, 0), (14, .ifCond .lt 8, 3, 22), (17, .iload_n 2, 1, 0), (18, .iconst 3, 1, 0), (19, .if_icmp .le 7, 3, 26)]
theorem mk95_0 : (mc95_0).all (m_okI prog_8_method_30_code) = true := by decide +kernel
def mc95_1 : List (Nat × Instr × Nat × Nat) := [(22, .iconst 1, 1, 0), (23, .goto 15, 3, 38), (26, .aload_n 0, 1, 0), (27, .getfield 98, 3, 0), (30, .ifCond .ne 7, 3, 37), (33, .iconst 2, 1, 0), (34, .goto 4, 3, 38), (37, .iconst 0, 1, 0), (38, .invokevirtual 113, 3, 0), (41, .ifCond .eq 5, 3, 46), (44, .iconst 0, 1, 0), (45, .ireturn, 1, 0)]
theorem mk95_1 : (mc95_1).all (m_okI prog_8_method_30_code) = true := by decide +kernel
def mc95_2 : List (Nat × Instr × Nat × Nat) := [(46, .iload_n 2, 1, 0), (47, .ifCond .ne 12, 3, 59), (50, .aload_n 0, 1, 0), (51, .getfield 44, 3, 0), (54, .iload_n 1, 1, 0), (55, .iaload, 1, 0), (56, .goto 37, 3, 93), (59, .iload_n 2, 1, 0), (60, .iconst 1, 1, 0), (61, .if_icmp .ne 12, 3, 73), (64, .aload_n 0, 1, 0), (65, .getfield 47, 3, 0)]
theorem mk95_2 : (mc95_2).all (m_okI prog_8_method_30_code) = true := by decide +kernel
def mc95_3 : List (Nat × Instr × Nat × Nat) := [(68, .iload_n 1, 1, 0), (69, .iaload, 1, 0), (70, .goto 23, 3, 93), (73, .iload_n 2, 1, 0), (74, .iconst 2, 1, 0), (75, .if_icmp .ne 12, 3, 87), (78, .aload_n 0, 1, 0), (79, .getfield 50, 3, 0), (82, .iload_n 1, 1, 0), (83, .iaload, 1, 0), (84, .goto 9, 3, 93), (87, .aload_n 0, 1, 0)]
theorem mk95_3 : (mc95_3).all (m_okI prog_8_method_30_code) = true := by decide +kernel
def mc95_4 : List (Nat × Instr × Nat × Nat) := [(88, .getfield 53, 3, 0), (91, .iload_n 1, 1, 0), (92, .iaload, 1, 0), (93, .ireturn, 1, 0)]
theorem mk95_4 : (mc95_4).all (m_okI prog_8_method_30_code) = true := by decide +kernel
def mc95 : List (Nat × List (Nat × Instr × Nat × Nat)) := [(20, mc95_0), (46, mc95_1), (66, mc95_2), (88, mc95_3), (94, mc95_4)]
theorem mk95 : ∀ c ∈ mc95, c.2.all (m_okI prog_8_method_30_code) = true := by
  simp only [mc95, List.forall_mem_cons, List.not_mem_nil, false_implies, implies_true, and_true]
  exact ⟨mk95_0, mk95_1, mk95_2, mk95_3, mk95_4⟩
/-- EscapeCellsModel.placeAt(II)I -/
def mc96_0 : List (Nat × Instr × Nat × Nat) := [(0, .aload_n 0, 1, 0), (1, .getfield 47, 3, 0), (4, .iload_n 1, 1, 0), (5, .iaload, 1, 0), (6, .ifCond .lt 15, 3, 21), (9, .aload_n 0, 1, 0), (10, .getfield 47, 3, 0), (13, .iload_n 1, 1, 0), (14, .iaload, 1, 0), (15, .iload_n 2, 1, 0), (16, .if_icmp .gt 5, 3, 21), (19, .iconst (-1), 1, 0)]
theorem mk96_0 : (mc96_0).all (m_okI prog_8_method_31_code) = true := by decide +kernel
def mc96_1 : List (Nat × Instr × Nat × Nat) := [(20, .ireturn, 1, 0), (21, .aload_n 0, 1, 0), (22, .getfield 26, 3, 0), (25, .iload_n 1, 1, 0), (26, .iaload, 1, 0), (27, .istore_n 3, 1, 0), (28, .iconst 0, 1, 0), (29, .istore 4, 2, 0), (31, .iload 4, 2, 0), (33, .aload_n 0, 1, 0), (34, .getfield 53, 3, 0), (37, .iload_n 1, 1, 0)]
theorem mk96_1 : (mc96_1).all (m_okI prog_8_method_31_code) = true := by decide +kernel
def mc96_2 : List (Nat × Instr × Nat × Nat) := [(38, .iaload, 1, 0), (39, .if_icmp .ge 40, 3, 79), (42, .aload_n 0, 1, 0), (43, .getfield 57, 3, 0), (46, .sipush 600, 3, 0), (49, .iload_n 1, 1, 0), (50, .imul, 1, 0), (51, .iload 4, 2, 0), (53, .iadd, 1, 0), (54, .iaload, 1, 0), (55, .iload_n 2, 1, 0), (56, .if_icmp .gt 23, 3, 79)]
theorem mk96_2 : (mc96_2).all (m_okI prog_8_method_31_code) = true := by decide +kernel
def mc96_3 : List (Nat × Instr × Nat × Nat) := [(59, .aload_n 0, 1, 0), (60, .getfield 60, 3, 0), (63, .sipush 600, 3, 0), (66, .iload_n 1, 1, 0), (67, .imul, 1, 0), (68, .iload 4, 2, 0), (70, .iadd, 1, 0), (71, .iaload, 1, 0), (72, .istore_n 3, 1, 0), (73, .iinc 4 1, 3, 0), (76, .goto (-45), 3, 31), (79, .iload_n 3, 1, 0)]
theorem mk96_3 : (mc96_3).all (m_okI prog_8_method_31_code) = true := by decide +kernel
def mc96_4 : List (Nat × Instr × Nat × Nat) := [(80, .ireturn, 1, 0)]
theorem mk96_4 : (mc96_4).all (m_okI prog_8_method_31_code) = true := by decide +kernel
def mc96 : List (Nat × List (Nat × Instr × Nat × Nat)) := [(20, mc96_0), (38, mc96_1), (57, mc96_2), (80, mc96_3), (81, mc96_4)]
theorem mk96 : ∀ c ∈ mc96, c.2.all (m_okI prog_8_method_31_code) = true := by
  simp only [mc96, List.forall_mem_cons, List.not_mem_nil, false_implies, implies_true, and_true]
  exact ⟨mk96_0, mk96_1, mk96_2, mk96_3, mk96_4⟩
/-- EscapeCellsModel.at(III)I -/
def mc97_0 : List (Nat × Instr × Nat × Nat) := [(0, .iload_n 1, 1, 0), (1, .ifCond .lt 35, 3, 36), (4, .iload_n 1, 1, 0), (5, .aload_n 0, 1, 0), (6, .getfield 91, 3, 0), (9, .if_icmp .ge 27, 3, 36), (12, .iload_n 2, 1, 0), (13, .ifCond .lt 23, 3, 36), (16, .iload_n 2, 1, 0), (17, .sipush 3600, 3, 0), (20, .if_icmp .gt 16, 3, 36), (23, .iload_n 3, 1, 0)]
theorem mk97_0 : (mc97_0).all (m_okI prog_8_method_32_code) = true := by decide +kernel
def mc97_1 : List (Nat × Instr × Nat × Nat) := [(24, .ifCond .lt 12, 3, 36), (27, .iload_n 3, 1, 0), (28, .iconst 2, 1, 0), (29, .if_icmp .ge 7, 3, 36), (32, .iconst 1, 1, 0), (33, .goto 4, 3, 37), (36, .iconst 0, 1, 0), (37, .istore 4, 2, 0), (39, .aload_n 0, 1, 0), (40, .iload 4, 2, 0), (42, .ifCond .ne 7, 3, 49), (45, .iconst 1, 1, 0)]
theorem mk97_1 : (mc97_1).all (m_okI prog_8_method_32_code) = true := by decide +kernel
def mc97_2 : List (Nat × Instr × Nat × Nat) := [(46, .goto 15, 3, 61), (49, .aload_n 0, 1, 0), (50, .getfield 98, 3, 0), (53, .ifCond .ne 7, 3, 60), (56, .iconst 2, 1, 0), (57, .goto 4, 3, 61), (60, .iconst 0, 1, 0), (61, .invokevirtual 113, 3, 0), (64, .ifCond .eq 5, 3, 69), (67, .iconst 0, 1, 0), (68, .ireturn, 1, 0), (69, .aload_n 0, 1, 0)]
theorem mk97_2 : (mc97_2).all (m_okI prog_8_method_32_code) = true := by decide +kernel
def mc97_3 : List (Nat × Instr × Nat × Nat) := [(70, .iload_n 1, 1, 0), (71, .iload_n 2, 1, 0), (72, .invokevirtual 170, 3, 0), (75, .istore 5, 2, 0), (77, .iload 5, 2, 0), (79, .ifCond .ge 7, 3, 86), (82, .iconst (-1), 1, 0), (83, .goto 20, 3, 103), (86, .iload_n 3, 1, 0), (87, .ifCond .ne 11, 3, 98), (90, .iload 5, 2, 0), (92, .bipush 24, 2, 0)]
theorem mk97_3 : (mc97_3).all (m_okI prog_8_method_32_code) = true := by decide +kernel
def mc97_4 : List (Nat × Instr × Nat × Nat) := [(94, .irem, 1, 0), (95, .goto 8, 3, 103), (98, .iload 5, 2, 0), (100, .bipush 24, 2, 0), (102, .idiv, 1, 0), (103, .ireturn, 1, 0)]
theorem mk97_4 : (mc97_4).all (m_okI prog_8_method_32_code) = true := by decide +kernel
def mc97 : List (Nat × List (Nat × Instr × Nat × Nat)) := [(24, mc97_0), (46, mc97_1), (70, mc97_2), (93, mc97_3), (104, mc97_4)]
theorem mk97 : ∀ c ∈ mc97, c.2.all (m_okI prog_8_method_32_code) = true := by
  simp only [mc97, List.forall_mem_cons, List.not_mem_nil, false_implies, implies_true, and_true]
  exact ⟨mk97_0, mk97_1, mk97_2, mk97_3, mk97_4⟩
/-- EscapeCellsModel.through(II)I -/
def mc98_0 : List (Nat × Instr × Nat × Nat) := [(0, .aload_n 0, 1, 0), (1, .aload_n 0, 1, 0), (2, .iload_n 1, 1, 0), (3, .iload_n 2, 1, 0), (4, .invokevirtual 101, 3, 0), (7, .ifCond .ne 7, 3, 14), (10, .iconst 1, 1, 0), (11, .goto 15, 3, 26), (14, .aload_n 0, 1, 0), (15, .getfield 98, 3, 0), (18, .ifCond .ne 7, 3, 25), (21, .iconst 2, 1, 0)]
theorem mk98_0 : (mc98_0).all (m_okI prog_8_method_33_code) = true := by decide +kernel
def mc98_1 : List (Nat × Instr × Nat × Nat) := [(22, .goto 4, 3, 26), (25, .iconst 0, 1, 0), (26, .invokevirtual 113, 3, 0), (29, .ifCond .eq 7, 3, 36), (32, .iconst 0, 1, 0), (33, .goto 13, 3, 46), (36, .aload_n 0, 1, 0), (37, .getfield 69, 3, 0), (40, .iload_n 1, 1, 0), (41, .iload_n 2, 1, 0), (42, .invokestatic 105, 3, 0), (45, .iaload, 1, 0)]
theorem mk98_1 : (mc98_1).all (m_okI prog_8_method_33_code) = true := by decide +kernel
def mc98_2 : List (Nat × Instr × Nat × Nat) := [(46, .ireturn, 1, 0)]
theorem mk98_2 : (mc98_2).all (m_okI prog_8_method_33_code) = true := by decide +kernel
def mc98 : List (Nat × List (Nat × Instr × Nat × Nat)) := [(22, mc98_0), (46, mc98_1), (47, mc98_2)]
theorem mk98 : ∀ c ∈ mc98, c.2.all (m_okI prog_8_method_33_code) = true := by
  simp only [mc98, List.forall_mem_cons, List.not_mem_nil, false_implies, implies_true, and_true]
  exact ⟨mk98_0, mk98_1, mk98_2⟩
/-- EscapeCellsModel.left(I)I -/
def mc99_0 : List (Nat × Instr × Nat × Nat) := [(0, .aload_n 0, 1, 0), (1, .iload_n 1, 1, 0), (2, .ifCond .lt 10, 3, 12), (5, .iload_n 1, 1, 0), (6, .sipush 3600, 3, 0), (9, .if_icmp .le 7, 3, 16), (12, .iconst 1, 1, 0), (13, .goto 15, 3, 28), (16, .aload_n 0, 1, 0), (17, .getfield 98, 3, 0), (20, .ifCond .ne 7, 3, 27), (23, .iconst 2, 1, 0)]
theorem mk99_0 : (mc99_0).all (m_okI prog_8_method_34_code) = true := by decide +kernel
def mc99_1 : List (Nat × Instr × Nat × Nat) := [(24, .goto 4, 3, 28), (27, .iconst 0, 1, 0), (28, .invokevirtual 113, 3, 0), (31, .ifCond .eq 5, 3, 36), (34, .iconst 0, 1, 0), (35, .ireturn, 1, 0), (36, .iconst 0, 1, 0), (37, .istore_n 2, 1, 0), (38, .iconst 0, 1, 0), (39, .istore_n 3, 1, 0), (40, .iload_n 3, 1, 0), (41, .aload_n 0, 1, 0)]
theorem mk99_1 : (mc99_1).all (m_okI prog_8_method_34_code) = true := by decide +kernel
def mc99_2 : List (Nat × Instr × Nat × Nat) := [(42, .getfield 91, 3, 0), (45, .if_icmp .ge 26, 3, 71), (48, .iload_n 2, 1, 0), (49, .aload_n 0, 1, 0), (50, .iload_n 3, 1, 0), (51, .iload_n 1, 1, 0), (52, .invokevirtual 170, 3, 0), (55, .ifCond .lt 7, 3, 62), (58, .iconst 1, 1, 0), (59, .goto 4, 3, 63), (62, .iconst 0, 1, 0), (63, .iadd, 1, 0)]
theorem mk99_2 : (mc99_2).all (m_okI prog_8_method_34_code) = true := by decide +kernel
def mc99_3 : List (Nat × Instr × Nat × Nat) := [(64, .istore_n 2, 1, 0), (65, .iinc 3 1, 3, 0), (68, .goto (-28), 3, 40), (71, .iload_n 2, 1, 0), (72, .ireturn, 1, 0)]
theorem mk99_3 : (mc99_3).all (m_okI prog_8_method_34_code) = true := by decide +kernel
def mc99 : List (Nat × List (Nat × Instr × Nat × Nat)) := [(24, mc99_0), (42, mc99_1), (64, mc99_2), (73, mc99_3)]
theorem mk99 : ∀ c ∈ mc99, c.2.all (m_okI prog_8_method_34_code) = true := by
  simp only [mc99, List.forall_mem_cons, List.not_mem_nil, false_implies, implies_true, and_true]
  exact ⟨mk99_0, mk99_1, mk99_2, mk99_3⟩
/-- EscapeCellsModel.isTurn(I)Z -/
def mc100_0 : List (Nat × Instr × Nat × Nat) := [(0, .aload_n 0, 1, 0), (1, .bipush 8, 2, 0), (3, .iload_n 1, 1, 0), (4, .invokevirtual 135, 3, 0), (7, .istore_n 2, 1, 0), (8, .iconst 0, 1, 0), (9, .istore_n 3, 1, 0), (10, .iconst 0, 1, 0), (11, .istore 4, 2, 0), (13, .iload 4, 2, 0), (15, .iconst 4, 1, 0), (16, .if_icmp .ge 54, 3, 70)]
theorem mk100_0 : (mc100_0).all (m_okI prog_8_method_35_code) = true := by decide +kernel
def mc100_1 : List (Nat × Instr × Nat × Nat) := [(19, .aload_n 0, 1, 0), (20, .iload_n 1, 1, 0), (21, .iload 4, 2, 0), (23, .invokevirtual 125, 3, 0), (26, .istore 5, 2, 0), (28, .iload_n 3, 1, 0), (29, .iload 5, 2, 0), (31, .ifCond .lt 30, 3, 61), (34, .aload_n 0, 1, 0), (35, .bipush 8, 2, 0), (37, .iload 5, 2, 0), (39, .invokevirtual 135, 3, 0)]
theorem mk100_1 : (mc100_1).all (m_okI prog_8_method_35_code) = true := by decide +kernel
def mc100_2 : List (Nat × Instr × Nat × Nat) := [(42, .ifCond .lt 19, 3, 61), (45, .aload_n 0, 1, 0), (46, .bipush 8, 2, 0), (48, .iload 5, 2, 0), (50, .invokevirtual 135, 3, 0), (53, .iload_n 2, 1, 0), (54, .if_icmp .ge 7, 3, 61), (57, .iconst 1, 1, 0), (58, .goto 4, 3, 62), (61, .iconst 0, 1, 0), (62, .iadd, 1, 0), (63, .istore_n 3, 1, 0)]
theorem mk100_2 : (mc100_2).all (m_okI prog_8_method_35_code) = true := by decide +kernel
def mc100_3 : List (Nat × Instr × Nat × Nat) := [(64, .iinc 4 1, 3, 0), (67, .goto (-54), 3, 13), (70, .iload_n 2, 1, 0), (71, .ifCond .le 12, 3, 83), (74, .iload_n 3, 1, 0), (75, .iconst 1, 1, 0), (76, .if_icmp .le 7, 3, 83), (79, .iconst 1, 1, 0), (80, .goto 4, 3, 84), (83, .iconst 0, 1, 0), (84, .ireturn, 1, 0)]
theorem mk100_3 : (mc100_3).all (m_okI prog_8_method_35_code) = true := by decide +kernel
def mc100 : List (Nat × List (Nat × Instr × Nat × Nat)) := [(17, mc100_0), (40, mc100_1), (64, mc100_2), (85, mc100_3)]
theorem mk100 : ∀ c ∈ mc100, c.2.all (m_okI prog_8_method_35_code) = true := by
  simp only [mc100, List.forall_mem_cons, List.not_mem_nil, false_implies, implies_true, and_true]
  exact ⟨mk100_0, mk100_1, mk100_2, mk100_3⟩
/-- EscapeCellsModel.turns()I -/
def mc101_0 : List (Nat × Instr × Nat × Nat) := [(0, .aload_n 0, 1, 0), (1, .iconst 0, 1, 0), (2, .putfield 88, 3, 0), (5, .aload_n 0, 1, 0), (6, .invokevirtual 132, 3, 0), (9, .iconst 0, 1, 0), (10, .istore_n 1, 1, 0), (11, .iconst 0, 1, 0), (12, .istore_n 2, 1, 0), (13, .iload_n 2, 1, 0), (14, .sipush 576, 3, 0), (17, .if_icmp .ge 25, 3, 42)]
theorem mk101_0 : (mc101_0).all (m_okI prog_8_method_36_code) = true := by decide +kernel
def mc101_1 : List (Nat × Instr × Nat × Nat) := [(20, .iload_n 1, 1, 0), (21, .aload_n 0, 1, 0), (22, .iload_n 2, 1, 0), (23, .invokevirtual 173, 3, 0), (26, .ifCond .eq 7, 3, 33), (29, .iconst 1, 1, 0), (30, .goto 4, 3, 34), (33, .iconst 0, 1, 0), (34, .iadd, 1, 0), (35, .istore_n 1, 1, 0), (36, .iinc 2 1, 3, 0), (39, .goto (-26), 3, 13)]
theorem mk101_1 : (mc101_1).all (m_okI prog_8_method_36_code) = true := by decide +kernel
def mc101_2 : List (Nat × Instr × Nat × Nat) := [(42, .iload_n 1, 1, 0), (43, .ireturn, 1, 0)]
theorem mk101_2 : (mc101_2).all (m_okI prog_8_method_36_code) = true := by decide +kernel
def mc101 : List (Nat × List (Nat × Instr × Nat × Nat)) := [(18, mc101_0), (40, mc101_1), (44, mc101_2)]
theorem mk101 : ∀ c ∈ mc101, c.2.all (m_okI prog_8_method_36_code) = true := by
  simp only [mc101, List.forall_mem_cons, List.not_mem_nil, false_implies, implies_true, and_true]
  exact ⟨mk101_0, mk101_1, mk101_2⟩
/-- EscapeCellsModel.isNear(II)Z -/
def mc102_0 : List (Nat × Instr × Nat × Nat) := [(0, .iload_n 1, 1, 0), (1, .iload_n 2, 1, 0), (2, .if_icmp .ne 5, 3, 7), (5, .iconst 1, 1, 0), (6, .ireturn, 1, 0), (7, .iconst 0, 1, 0), (8, .istore_n 3, 1, 0), (9, .iload_n 3, 1, 0), (10, .iconst 4, 1, 0), (11, .if_icmp .ge 94, 3, 105), (14, .aload_n 0, 1, 0), (15, .iload_n 1, 1, 0)]
theorem mk102_0 : (mc102_0).all (m_okI prog_8_method_37_code) = true := by decide +kernel
def mc102_1 : List (Nat × Instr × Nat × Nat) := [(16, .iload_n 3, 1, 0), (17, .invokevirtual 125, 3, 0), (20, .istore 4, 2, 0), (22, .iload 4, 2, 0), (24, .ifCond .lt 75, 3, 99), (27, .aload_n 0, 1, 0), (28, .getfield 7, 3, 0), (31, .iload 4, 2, 0), (33, .baload, 1, 0), (34, .ifCond .eq 6, 3, 40), (37, .goto 62, 3, 99), (40, .iload 4, 2, 0)]
theorem mk102_1 : (mc102_1).all (m_okI prog_8_method_37_code) = true := by decide +kernel
def mc102_2 : List (Nat × Instr × Nat × Nat) := [(42, .iload_n 2, 1, 0), (43, .if_icmp .ne 7, 3, 50), (46, .iconst 1, 1, 0), (47, .goto 4, 3, 51), (50, .iconst 0, 1, 0), (51, .istore 5, 2, 0), (53, .iconst 0, 1, 0), (54, .istore 6, 2, 0), (56, .iload 6, 2, 0), (58, .iconst 4, 1, 0), (59, .if_icmp .ge 33, 3, 92), (62, .iload 5, 2, 0)]
theorem mk102_2 : (mc102_2).all (m_okI prog_8_method_37_code) = true := by decide +kernel
def mc102_3 : List (Nat × Instr × Nat × Nat) := [(64, .ifCond .ne 15, 3, 79), (67, .aload_n 0, 1, 0), (68, .iload 4, 2, 0), (70, .iload 6, 2, 0), (72, .invokevirtual 125, 3, 0), (75, .iload_n 2, 1, 0), (76, .if_icmp .ne 7, 3, 83), (79, .iconst 1, 1, 0), (80, .goto 4, 3, 84), (83, .iconst 0, 1, 0), (84, .istore 5, 2, 0), (86, .iinc 6 1, 3, 0)]
theorem mk102_3 : (mc102_3).all (m_okI prog_8_method_37_code) = true := by decide +kernel
def mc102_4 : List (Nat × Instr × Nat × Nat) := [(89, .goto (-33), 3, 56), (92, .iload 5, 2, 0), (94, .ifCond .eq 5, 3, 99), (97, .iconst 1, 1, 0), (98, .ireturn, 1, 0), (99, .iinc 3 1, 3, 0), (102, .goto (-93), 3, 9), (105, .iconst 0, 1, 0), (106, .ireturn, 1, 0)]
theorem mk102_4 : (mc102_4).all (m_okI prog_8_method_37_code) = true := by decide +kernel
def mc102 : List (Nat × List (Nat × Instr × Nat × Nat)) := [(16, mc102_0), (41, mc102_1), (63, mc102_2), (87, mc102_3), (107, mc102_4)]
theorem mk102 : ∀ c ∈ mc102, c.2.all (m_okI prog_8_method_37_code) = true := by
  simp only [mc102, List.forall_mem_cons, List.not_mem_nil, false_implies, implies_true, and_true]
  exact ⟨mk102_0, mk102_1, mk102_2, mk102_3, mk102_4⟩
/-- EscapeCellsModel.signs()I -/
def mc103_0 : List (Nat × Instr × Nat × Nat) := [(0, .aload_n 0, 1, 0), (1, .invokevirtual 176, 3, 0), (4, .istore_n 1, 1, 0), (5, .iload_n 1, 1, 0), (6, .bipush 12, 2, 0), (8, .if_icmp .le 5, 3, 13), (11, .iconst (-1), 1, 0), (12, .ireturn, 1, 0), (13, .iconst 0, 1, 0), (14, .istore_n 2, 1, 0), (15, .iconst 0, 1, 0), (16, .istore_n 3, 1, 0)]
theorem mk103_0 : (mc103_0).all (m_okI prog_8_method_38_code) = true := by decide +kernel
def mc103_1 : List (Nat × Instr × Nat × Nat) := [(17, .iload_n 3, 1, 0), (18, .sipush 576, 3, 0), (21, .if_icmp .ge 27, 3, 48), (24, .aload_n 0, 1, 0), (25, .iload_n 3, 1, 0), (26, .invokevirtual 173, 3, 0), (29, .ifCond .eq 13, 3, 42), (32, .aload_n 0, 1, 0), (33, .getfield 41, 3, 0), (36, .iload_n 2, 1, 0), (37, .iload_n 3, 1, 0), (38, .iastore, 1, 0)]
theorem mk103_1 : (mc103_1).all (m_okI prog_8_method_38_code) = true := by decide +kernel
def mc103_2 : List (Nat × Instr × Nat × Nat) := [(39, .iinc 2 1, 3, 0), (42, .iinc 3 1, 3, 0), (45, .goto (-28), 3, 17), (48, .iconst 1, 1, 0), (49, .iload_n 1, 1, 0), (50, .ishl, 1, 0), (51, .iconst 1, 1, 0), (52, .isub, 1, 0), (53, .istore_n 3, 1, 0), (54, .iconst 1, 1, 0), (55, .istore 4, 2, 0), (57, .iload 4, 2, 0)]
theorem mk103_2 : (mc103_2).all (m_okI prog_8_method_38_code) = true := by decide +kernel
def mc103_3 : List (Nat × Instr × Nat × Nat) := [(59, .iload_n 3, 1, 0), (60, .if_icmp .gt 18, 3, 78), (63, .aload_n 0, 1, 0), (64, .getfield 78, 3, 0), (67, .iload 4, 2, 0), (69, .ldc 145, 2, 0), (71, .iastore, 1, 0), (72, .iinc 4 1, 3, 0), (75, .goto (-18), 3, 57), (78, .aload_n 0, 1, 0), (79, .getfield 78, 3, 0), (82, .iconst 0, 1, 0)]
theorem mk103_3 : (mc103_3).all (m_okI prog_8_method_38_code) = true := by decide +kernel
def mc103_4 : List (Nat × Instr × Nat × Nat) := [(83, .iconst 0, 1, 0), (84, .iastore, 1, 0), (85, .iconst 0, 1, 0), (86, .istore 4, 2, 0), (88, .iload 4, 2, 0), (90, .iload_n 3, 1, 0), (91, .if_icmp .gt 127, 3, 218), (94, .iconst 0, 1, 0), (95, .istore 5, 2, 0), (97, .iload 5, 2, 0), (99, .sipush 576, 3, 0), (102, .if_icmp .ge 110, 3, 212)]
theorem mk103_4 : (mc103_4).all (m_okI prog_8_method_38_code) = true := by decide +kernel
def mc103_5 : List (Nat × Instr × Nat × Nat) := [(105, .aload_n 0, 1, 0), (106, .getfield 78, 3, 0), (109, .iload 4, 2, 0), (111, .iaload, 1, 0), (112, .ldc 145, 2, 0), (114, .if_icmp .ge 98, 3, 212), (117, .iload 4, 2, 0), (119, .iload_n 3, 1, 0), (120, .if_icmp .ge 92, 3, 212), (123, .aload_n 0, 1, 0), (124, .bipush 8, 2, 0), (126, .iload 5, 2, 0)]
theorem mk103_5 : (mc103_5).all (m_okI prog_8_method_38_code) = true := by decide +kernel
def mc103_6 : List (Nat × Instr × Nat × Nat) := [(128, .invokevirtual 135, 3, 0), (131, .ifCond .ge 7, 3, 138), (134, .iconst 0, 1, 0), (135, .goto 10, 3, 145), (138, .aload_n 0, 1, 0), (139, .iload 5, 2, 0), (141, .iload_n 1, 1, 0), (142, .invokevirtual 180, 3, 0), (145, .istore 6, 2, 0), (147, .iload 4, 2, 0), (149, .iload 6, 2, 0), (151, .ior, 1, 0)]
theorem mk103_6 : (mc103_6).all (m_okI prog_8_method_38_code) = true := by decide +kernel
def mc103_7 : List (Nat × Instr × Nat × Nat) := [(152, .istore 7, 2, 0), (154, .aload_n 0, 1, 0), (155, .getfield 78, 3, 0), (158, .iload 7, 2, 0), (160, .iload 7, 2, 0), (162, .iload 4, 2, 0), (164, .if_icmp .eq 34, 3, 198), (167, .aload_n 0, 1, 0), (168, .getfield 78, 3, 0), (171, .iload 4, 2, 0), (173, .iaload, 1, 0), (174, .iconst 1, 1, 0)]
theorem mk103_7 : (mc103_7).all (m_okI prog_8_method_38_code) = true := by decide +kernel
def mc103_8 : List (Nat × Instr × Nat × Nat) := [(175, .iadd, 1, 0), (176, .aload_n 0, 1, 0), (177, .getfield 78, 3, 0), (180, .iload 7, 2, 0), (182, .iaload, 1, 0), (183, .if_icmp .ge 15, 3, 198), (186, .aload_n 0, 1, 0), (187, .getfield 78, 3, 0), (190, .iload 4, 2, 0), (192, .iaload, 1, 0), (193, .iconst 1, 1, 0), (194, .iadd, 1, 0)]
theorem mk103_8 : (mc103_8).all (m_okI prog_8_method_38_code) = true := by decide +kernel
def mc103_9 : List (Nat × Instr × Nat × Nat) := [(195, .goto 10, 3, 205), (198, .aload_n 0, 1, 0), (199, .getfield 78, 3, 0), (202, .iload 7, 2, 0), (204, .iaload, 1, 0), (205, .iastore, 1, 0), (206, .iinc 5 1, 3, 0), (209, .goto (-112), 3, 97), (212, .iinc 4 1, 3, 0), (215, .goto (-127), 3, 88), (218, .aload_n 0, 1, 0), (219, .getfield 78, 3, 0)]
theorem mk103_9 : (mc103_9).all (m_okI prog_8_method_38_code) = true := by decide +kernel
def mc103_10 : List (Nat × Instr × Nat × Nat) := [(222, .iload_n 3, 1, 0), (223, .iaload, 1, 0), (224, .ireturn, 1, 0)]
theorem mk103_10 : (mc103_10).all (m_okI prog_8_method_38_code) = true := by decide +kernel
def mc103 : List (Nat × List (Nat × Instr × Nat × Nat)) := [(17, mc103_0), (39, mc103_1), (58, mc103_2), (83, mc103_3), (103, mc103_4), (127, mc103_5), (152, mc103_6), (175, mc103_7), (195, mc103_8), (220, mc103_9), (225, mc103_10)]
theorem mk103 : ∀ c ∈ mc103, c.2.all (m_okI prog_8_method_38_code) = true := by
  simp only [mc103, List.forall_mem_cons, List.not_mem_nil, false_implies, implies_true, and_true]
  exact ⟨mk103_0, mk103_1, mk103_2, mk103_3, mk103_4, mk103_5, mk103_6, mk103_7, mk103_8, mk103_9, mk103_10⟩
/-- EscapeCellsModel.shownBy(II)I -/
def mc104_0 : List (Nat × Instr × Nat × Nat) := [(0, .iconst 0, 1, 0), (1, .istore_n 3, 1, 0), (2, .iconst 0, 1, 0), (3, .istore 4, 2, 0), (5, .iload 4, 2, 0), (7, .iload_n 2, 1, 0), (8, .if_icmp .ge 35, 3, 43), (11, .iload_n 3, 1, 0), (12, .aload_n 0, 1, 0), (13, .iload_n 1, 1, 0), (14, .aload_n 0, 1, 0), (15, .getfield 41, 3, 0)]
theorem mk104_0 : (mc104_0).all (m_okI prog_8_method_39_code) = true := by decide +kernel
def mc104_1 : List (Nat × Instr × Nat × Nat) := [(18, .iload 4, 2, 0), (20, .iaload, 1, 0), (21, .invokevirtual 183, 3, 0), (24, .ifCond .eq 10, 3, 34), (27, .iconst 1, 1, 0), (28, .iload 4, 2, 0), (30, .ishl, 1, 0), (31, .goto 4, 3, 35), (34, .iconst 0, 1, 0), (35, .ior, 1, 0), (36, .istore_n 3, 1, 0), (37, .iinc 4 1, 3, 0)]
theorem mk104_1 : (mc104_1).all (m_okI prog_8_method_39_code) = true := by decide +kernel
def mc104_2 : List (Nat × Instr × Nat × Nat) := [(40, .goto (-35), 3, 5), (43, .iload_n 3, 1, 0), (44, .ireturn, 1, 0)]
theorem mk104_2 : (mc104_2).all (m_okI prog_8_method_39_code) = true := by decide +kernel
def mc104 : List (Nat × List (Nat × Instr × Nat × Nat)) := [(16, mc104_0), (38, mc104_1), (45, mc104_2)]
theorem mk104 : ∀ c ∈ mc104, c.2.all (m_okI prog_8_method_39_code) = true := by
  simp only [mc104, List.forall_mem_cons, List.not_mem_nil, false_implies, implies_true, and_true]
  exact ⟨mk104_0, mk104_1, mk104_2⟩
