/-- EscapeCells$Flight.cellBehind(II)I -/
def mc15_0 : List (Nat × Instr × Nat × Nat) := [(0, .aload_n 0, 1, 0), (1, .iload_n 1, 1, 0), (2, .iload_n 2, 1, 0), (3, .invokevirtual 183, 3, 0), (6, .ifCond .ne 5, 3, 11), (9, .iconst (-1), 1, 0), (10, .ireturn, 1, 0), (11, .aload_n 0, 1, 0), (12, .getfield 19, 3, 0), (15, .getfield 118, 3, 0), (18, .iload_n 1, 1, 0), (19, .iaload, 1, 0)]
theorem mk15_0 : (mc15_0).all (m_okI prog_2_method_16_code) = true := by decide +kernel
def mc15_1 : List (Nat × Instr × Nat × Nat) := [(20, .istore_n 3, 1, 0), (21, .iconst 0, 1, 0), (22, .istore 4, 2, 0), (24, .iload 4, 2, 0), (26, .aload_n 0, 1, 0), (27, .getfield 33, 3, 0), (30, .iload_n 1, 1, 0), (31, .iaload, 1, 0), (32, .if_icmp .ge 32, 3, 64), (35, .aload_n 0, 1, 0), (36, .getfield 56, 3, 0), (39, .iload_n 1, 1, 0)]
theorem mk15_1 : (mc15_1).all (m_okI prog_2_method_16_code) = true := by decide +kernel
def mc15_2 : List (Nat × Instr × Nat × Nat) := [(40, .aaload, 1, 0), (41, .iload 4, 2, 0), (43, .iaload, 1, 0), (44, .iload_n 2, 1, 0), (45, .if_icmp .gt 19, 3, 64), (48, .aload_n 0, 1, 0), (49, .getfield 59, 3, 0), (52, .iload_n 1, 1, 0), (53, .aaload, 1, 0), (54, .iload 4, 2, 0), (56, .iaload, 1, 0), (57, .istore_n 3, 1, 0)]
theorem mk15_2 : (mc15_2).all (m_okI prog_2_method_16_code) = true := by decide +kernel
def mc15_3 : List (Nat × Instr × Nat × Nat) := [(58, .iinc 4 1, 3, 0), (61, .goto (-37), 3, 24), (64, .iload_n 3, 1, 0), (65, .ireturn, 1, 0)]
theorem mk15_3 : (mc15_3).all (m_okI prog_2_method_16_code) = true := by decide +kernel
def mc15 : List (Nat × List (Nat × Instr × Nat × Nat)) := [(20, mc15_0), (40, mc15_1), (58, mc15_2), (66, mc15_3)]
theorem mk15 : ∀ c ∈ mc15, c.2.all (m_okI prog_2_method_16_code) = true := by
  simp only [mc15, List.forall_mem_cons, List.not_mem_nil, false_implies, implies_true, and_true]
  exact ⟨mk15_0, mk15_1, mk15_2, mk15_3⟩
/-- EscapeCells$Flight.countBehind(I)I -/
def mc16_0 : List (Nat × Instr × Nat × Nat) := [(0, .iconst 0, 1, 0), (1, .istore_n 2, 1, 0), (2, .iconst 0, 1, 0), (3, .istore_n 3, 1, 0), (4, .iload_n 3, 1, 0), (5, .aload_n 0, 1, 0), (6, .getfield 19, 3, 0), (9, .getfield 115, 3, 0), (12, .if_icmp .ge 21, 3, 33), (15, .aload_n 0, 1, 0), (16, .iload_n 3, 1, 0), (17, .iload_n 1, 1, 0)]
theorem mk16_0 : (mc16_0).all (m_okI prog_2_method_17_code) = true := by decide +kernel
def mc16_1 : List (Nat × Instr × Nat × Nat) := [(18, .invokevirtual 183, 3, 0), (21, .ifCond .eq 6, 3, 27), (24, .iinc 2 1, 3, 0), (27, .iinc 3 1, 3, 0), (30, .goto (-26), 3, 4), (33, .iload_n 2, 1, 0), (34, .ireturn, 1, 0)]
theorem mk16_1 : (mc16_1).all (m_okI prog_2_method_17_code) = true := by decide +kernel
def mc16 : List (Nat × List (Nat × Instr × Nat × Nat)) := [(18, mc16_0), (35, mc16_1)]
theorem mk16 : ∀ c ∈ mc16, c.2.all (m_okI prog_2_method_17_code) = true := by
  simp only [mc16, List.forall_mem_cons, List.not_mem_nil, false_implies, implies_true, and_true]
  exact ⟨mk16_0, mk16_1⟩
/-- EscapeCells$Numbers.<init>(LEscapeCells$Storey;)V -/
def mc17_0 : List (Nat × Instr × Nat × Nat) := [(0, .aload_n 0, 1, 0), (1, .invokespecial 3, 3, 0), (4, .aload_n 0, 1, 0), (5, .aload_n 1, 1, 0), (6, .putfield 9, 3, 0), (9, .aload_n 0, 1, 0), (10, .bipush 9, 2, 0), (12, .aload_n 1, 1, 0), (13, .getfield 15, 3, 0), (16, .multianewarray 21 2, 4, 0), (20, .putfield 23, 3, 0), (23, .aload_n 0, 1, 0)]
theorem mk17_0 : (mc17_0).all (m_okI prog_3_method_1_code) = true := by decide +kernel
def mc17_1 : List (Nat × Instr × Nat × Nat) := [(24, .bipush 9, 2, 0), (26, .newarray .boolean, 2, 0), (28, .putfield 26, 3, 0), (31, .aload_n 0, 1, 0), (32, .aload_n 1, 1, 0), (33, .getfield 15, 3, 0), (36, .newarray .int, 2, 0), (38, .putfield 30, 3, 0), (41, .return_, 1, 0)]
theorem mk17_1 : (mc17_1).all (m_okI prog_3_method_1_code) = true := by decide +kernel
def mc17 : List (Nat × List (Nat × Instr × Nat × Nat)) := [(24, mc17_0), (42, mc17_1)]
theorem mk17 : ∀ c ∈ mc17, c.2.all (m_okI prog_3_method_1_code) = true := by
  simp only [mc17, List.forall_mem_cons, List.not_mem_nil, false_implies, implies_true, and_true]
  exact ⟨mk17_0, mk17_1⟩
/-- EscapeCells$Numbers.forget()V -/
def mc18_0 : List (Nat × Instr × Nat × Nat) := [(0, .iconst 0, 1, 0), (1, .istore_n 1, 1, 0), (2, .iload_n 1, 1, 0), (3, .aload_n 0, 1, 0), (4, .getfield 26, 3, 0), (7, .arraylength, 1, 0), (8, .if_icmp .ge 16, 3, 24), (11, .aload_n 0, 1, 0), (12, .getfield 26, 3, 0), (15, .iload_n 1, 1, 0), (16, .iconst 0, 1, 0), (17, .bastore, 1, 0)]
theorem mk18_0 : (mc18_0).all (m_okI prog_3_method_2_code) = true := by decide +kernel
def mc18_1 : List (Nat × Instr × Nat × Nat) := [(18, .iinc 1 1, 3, 0), (21, .goto (-19), 3, 2), (24, .return_, 1, 0)]
theorem mk18_1 : (mc18_1).all (m_okI prog_3_method_2_code) = true := by decide +kernel
def mc18 : List (Nat × List (Nat × Instr × Nat × Nat)) := [(18, mc18_0), (25, mc18_1)]
theorem mk18 : ∀ c ∈ mc18, c.2.all (m_okI prog_3_method_2_code) = true := by
  simp only [mc18, List.forall_mem_cons, List.not_mem_nil, false_implies, implies_true, and_true]
  exact ⟨mk18_0, mk18_1⟩
/-- EscapeCells$Numbers.rowTo(I)[I -/
def mc19_0 : List (Nat × Instr × Nat × Nat) := [(0, .iload_n 1, 1, 0), (1, .iconst 1, 1, 0), (2, .iadd, 1, 0), (3, .istore_n 2, 1, 0), (4, .aload_n 0, 1, 0), (5, .getfield 26, 3, 0), (8, .iload_n 2, 1, 0), (9, .baload, 1, 0), (10, .ifCond .ne 21, 3, 31), (13, .aload_n 0, 1, 0), (14, .iload_n 1, 1, 0), (15, .aload_n 0, 1, 0)]
theorem mk19_0 : (mc19_0).all (m_okI prog_3_method_3_code) = true := by decide +kernel
def mc19_1 : List (Nat × Instr × Nat × Nat) := [(16, .getfield 23, 3, 0), (19, .iload_n 2, 1, 0), (20, .aaload, 1, 0), (21, .invokevirtual 34, 3, 0), (24, .aload_n 0, 1, 0), (25, .getfield 26, 3, 0), (28, .iload_n 2, 1, 0), (29, .iconst 1, 1, 0), (30, .bastore, 1, 0), (31, .aload_n 0, 1, 0), (32, .getfield 23, 3, 0), (35, .iload_n 2, 1, 0)]
theorem mk19_1 : (mc19_1).all (m_okI prog_3_method_3_code) = true := by decide +kernel
def mc19_2 : List (Nat × Instr × Nat × Nat) := [(36, .aaload, 1, 0), (37, .areturn, 1, 0)]
theorem mk19_2 : (mc19_2).all (m_okI prog_3_method_3_code) = true := by decide +kernel
def mc19 : List (Nat × List (Nat × Instr × Nat × Nat)) := [(16, mc19_0), (36, mc19_1), (38, mc19_2)]
theorem mk19 : ∀ c ∈ mc19, c.2.all (m_okI prog_3_method_3_code) = true := by
  simp only [mc19, List.forall_mem_cons, List.not_mem_nil, false_implies, implies_true, and_true]
  exact ⟨mk19_0, mk19_1, mk19_2⟩
/-- EscapeCells$Numbers.findAll()V -/
def mc20_0 : List (Nat × Instr × Nat × Nat) := [(0, .iconst (-1), 1, 0), (1, .istore_n 1, 1, 0), (2, .iload_n 1, 1, 0), (3, .aload_n 0, 1, 0), (4, .getfield 9, 3, 0), (7, .getfield 38, 3, 0), (10, .if_icmp .ge 15, 3, 25), (13, .aload_n 0, 1, 0), (14, .iload_n 1, 1, 0), (15, .invokevirtual 41, 3, 0), (18, .pop, 1, 0), (19, .iinc 1 1, 3, 0)]
theorem mk20_0 : (mc20_0).all (m_okI prog_3_method_4_code) = true := by decide +kernel
def mc20_1 : List (Nat × Instr × Nat × Nat) := [(22, .goto (-20), 3, 2), (25, .return_, 1, 0)]
theorem mk20_1 : (mc20_1).all (m_okI prog_3_method_4_code) = true := by decide +kernel
def mc20 : List (Nat × List (Nat × Instr × Nat × Nat)) := [(20, mc20_0), (26, mc20_1)]
theorem mk20 : ∀ c ∈ mc20, c.2.all (m_okI prog_3_method_4_code) = true := by
  simp only [mc20, List.forall_mem_cons, List.not_mem_nil, false_implies, implies_true, and_true]
  exact ⟨mk20_0, mk20_1⟩
/-- EscapeCells$Numbers.foundRowTo(I)[I -/
def mc21_0 : List (Nat × Instr × Nat × Nat) := [(0, .aload_n 0, 1, 0), (1, .getfield 23, 3, 0), (4, .iload_n 1, 1, 0), (5, .iconst 1, 1, 0), (6, .iadd, 1, 0), (7, .aaload, 1, 0), (8, .areturn, 1, 0)]
theorem mk21_0 : (mc21_0).all (m_okI prog_3_method_5_code) = true := by decide +kernel
def mc21 : List (Nat × List (Nat × Instr × Nat × Nat)) := [(9, mc21_0)]
theorem mk21 : ∀ c ∈ mc21, c.2.all (m_okI prog_3_method_5_code) = true := by
  simp only [mc21, List.forall_mem_cons, List.not_mem_nil, false_implies, implies_true, and_true]
  exact mk21_0
/-- EscapeCells$Numbers.find(I[I)V -/
def mc22_0 : List (Nat × Instr × Nat × Nat) := [(0, .aload_n 2, 1, 0), (1, .iconst (-1), 1, 0), (2, .invokestatic 45, 3, 0), (5, .iconst 0, 1, 0), (6, .istore_n 3, 1, 0), (7, .iconst 0, 1, 0), (8, .istore 4, 2, 0), (10, .iload 4, 2, 0), (12, .aload_n 0, 1, 0), (13, .getfield 9, 3, 0), (16, .getfield 38, 3, 0), (19, .if_icmp .ge 54, 3, 73)]
theorem mk22_0 : (mc22_0).all (m_okI prog_3_method_6_code) = true := by decide +kernel
def mc22_1 : List (Nat × Instr × Nat × Nat) := [(22, .aload_n 0, 1, 0), (23, .getfield 9, 3, 0), (26, .getfield 51, 3, 0), (29, .iload 4, 2, 0), (31, .iaload, 1, 0), (32, .istore 5, 2, 0), (34, .iload 5, 2, 0), (36, .iconst (-1), 1, 0), (37, .if_icmp .eq 30, 3, 67), (40, .iload_n 1, 1, 0), (41, .iconst (-1), 1, 0), (42, .if_icmp .eq 9, 3, 51)]
theorem mk22_1 : (mc22_1).all (m_okI prog_3_method_6_code) = true := by decide +kernel
def mc22_2 : List (Nat × Instr × Nat × Nat) := [(45, .iload_n 1, 1, 0), (46, .iload 4, 2, 0), (48, .if_icmp .ne 19, 3, 67), (51, .aload_n 2, 1, 0), (52, .iload 5, 2, 0), (54, .iconst 0, 1, 0), (55, .iastore, 1, 0), (56, .aload_n 0, 1, 0), (57, .getfield 30, 3, 0), (60, .iload_n 3, 1, 0), (61, .iload 5, 2, 0), (63, .iastore, 1, 0)]
theorem mk22_2 : (mc22_2).all (m_okI prog_3_method_6_code) = true := by decide +kernel
def mc22_3 : List (Nat × Instr × Nat × Nat) := [(64, .iinc 3 1, 3, 0), (67, .iinc 4 1, 3, 0), (70, .goto (-60), 3, 10), (73, .iconst 0, 1, 0), (74, .istore 4, 2, 0), (76, .iload 4, 2, 0), (78, .iload_n 3, 1, 0), (79, .if_icmp .ge 33, 3, 112), (82, .iload 4, 2, 0), (84, .aload_n 0, 1, 0), (85, .getfield 30, 3, 0), (88, .arraylength, 1, 0)]
theorem mk22_3 : (mc22_3).all (m_okI prog_3_method_6_code) = true := by decide +kernel
def mc22_4 : List (Nat × Instr × Nat × Nat) := [(89, .if_icmp .ge 23, 3, 112), (92, .aload_n 0, 1, 0), (93, .aload_n 0, 1, 0), (94, .getfield 30, 3, 0), (97, .iload 4, 2, 0), (99, .iaload, 1, 0), (100, .aload_n 2, 1, 0), (101, .iload_n 3, 1, 0), (102, .invokevirtual 54, 3, 0), (105, .istore_n 3, 1, 0), (106, .iinc 4 1, 3, 0), (109, .goto (-33), 3, 76)]
theorem mk22_4 : (mc22_4).all (m_okI prog_3_method_6_code) = true := by decide +kernel
def mc22_5 : List (Nat × Instr × Nat × Nat) := [(112, .return_, 1, 0)]
theorem mk22_5 : (mc22_5).all (m_okI prog_3_method_6_code) = true := by decide +kernel
def mc22 : List (Nat × List (Nat × Instr × Nat × Nat)) := [(20, mc22_0), (43, mc22_1), (64, mc22_2), (89, mc22_3), (110, mc22_4), (113, mc22_5)]
theorem mk22 : ∀ c ∈ mc22, c.2.all (m_okI prog_3_method_6_code) = true := by
  simp only [mc22, List.forall_mem_cons, List.not_mem_nil, false_implies, implies_true, and_true]
  exact ⟨mk22_0, mk22_1, mk22_2, mk22_3, mk22_4, mk22_5⟩
/-- EscapeCells$Numbers.spread(I[II)I -/
def mc23_0 : List (Nat × Instr × Nat × Nat) := [(0, .iload_n 3, 1, 0), (1, .istore 4, 2, 0), (3, .iconst 0, 1, 0), (4, .istore 5, 2, 0), (6, .iload 5, 2, 0), (8, .iconst 4, 1, 0), (9, .if_icmp .ge 66, 3, 75), (12, .aload_n 0, 1, 0), (13, .getfield 9, 3, 0), (16, .iload_n 1, 1, 0), (17, .iload 5, 2, 0), (19, .invokevirtual 58, 3, 0)]
theorem mk23_0 : (mc23_0).all (m_okI prog_3_method_7_code) = true := by decide +kernel
def mc23_1 : List (Nat × Instr × Nat × Nat) := [(22, .istore 6, 2, 0), (24, .iload 6, 2, 0), (26, .iconst (-1), 1, 0), (27, .if_icmp .eq 42, 3, 69), (30, .aload_n 2, 1, 0), (31, .iload 6, 2, 0), (33, .iaload, 1, 0), (34, .iconst (-1), 1, 0), (35, .if_icmp .ne 34, 3, 69), (38, .iload 4, 2, 0), (40, .aload_n 0, 1, 0), (41, .getfield 30, 3, 0)]
theorem mk23_1 : (mc23_1).all (m_okI prog_3_method_7_code) = true := by decide +kernel
def mc23_2 : List (Nat × Instr × Nat × Nat) := [(44, .arraylength, 1, 0), (45, .if_icmp .ge 24, 3, 69), (48, .aload_n 2, 1, 0), (49, .iload 6, 2, 0), (51, .aload_n 2, 1, 0), (52, .iload_n 1, 1, 0), (53, .iaload, 1, 0), (54, .iconst 1, 1, 0), (55, .iadd, 1, 0), (56, .iastore, 1, 0), (57, .aload_n 0, 1, 0), (58, .getfield 30, 3, 0)]
theorem mk23_2 : (mc23_2).all (m_okI prog_3_method_7_code) = true := by decide +kernel
def mc23_3 : List (Nat × Instr × Nat × Nat) := [(61, .iload 4, 2, 0), (63, .iload 6, 2, 0), (65, .iastore, 1, 0), (66, .iinc 4 1, 3, 0), (69, .iinc 5 1, 3, 0), (72, .goto (-66), 3, 6), (75, .iload 4, 2, 0), (77, .ireturn, 1, 0)]
theorem mk23_3 : (mc23_3).all (m_okI prog_3_method_7_code) = true := by decide +kernel
def mc23 : List (Nat × List (Nat × Instr × Nat × Nat)) := [(20, mc23_0), (42, mc23_1), (59, mc23_2), (78, mc23_3)]
theorem mk23 : ∀ c ∈ mc23, c.2.all (m_okI prog_3_method_7_code) = true := by
  simp only [mc23, List.forall_mem_cons, List.not_mem_nil, false_implies, implies_true, and_true]
  exact ⟨mk23_0, mk23_1, mk23_2, mk23_3⟩
/-- EscapeCells$People.<init>(I)V -/
def mc24_0 : List (Nat × Instr × Nat × Nat) := [(0, .aload_n 0, 1, 0), (1, .invokespecial 3, 3, 0), (4, .aload_n 0, 1, 0), (5, .bipush 60, 2, 0), (7, .newarray .int, 2, 0), (9, .putfield 9, 3, 0), (12, .aload_n 0, 1, 0), (13, .bipush 60, 2, 0), (15, .newarray .int, 2, 0), (17, .putfield 15, 3, 0), (20, .aload_n 0, 1, 0), (21, .bipush 60, 2, 0)]
theorem mk24_0 : (mc24_0).all (m_okI prog_4_method_1_code) = true := by decide +kernel
def mc24_1 : List (Nat × Instr × Nat × Nat) := [(23, .newarray .int, 2, 0), (25, .putfield 18, 3, 0), (28, .aload_n 0, 1, 0), (29, .bipush 60, 2, 0), (31, .newarray .int, 2, 0), (33, .putfield 21, 3, 0), (36, .aload_n 0, 1, 0), (37, .iload_n 1, 1, 0), (38, .newarray .int, 2, 0), (40, .putfield 24, 3, 0), (43, .aload_n 0, 1, 0), (44, .iconst 0, 1, 0)]
theorem mk24_1 : (mc24_1).all (m_okI prog_4_method_1_code) = true := by decide +kernel
def mc24_2 : List (Nat × Instr × Nat × Nat) := [(45, .putfield 27, 3, 0), (48, .aload_n 0, 1, 0), (49, .getfield 24, 3, 0), (52, .iconst (-1), 1, 0), (53, .invokestatic 31, 3, 0), (56, .return_, 1, 0)]
theorem mk24_2 : (mc24_2).all (m_okI prog_4_method_1_code) = true := by decide +kernel
def mc24 : List (Nat × List (Nat × Instr × Nat × Nat)) := [(22, mc24_0), (45, mc24_1), (57, mc24_2)]
theorem mk24 : ∀ c ∈ mc24, c.2.all (m_okI prog_4_method_1_code) = true := by
  simp only [mc24, List.forall_mem_cons, List.not_mem_nil, false_implies, implies_true, and_true]
  exact ⟨mk24_0, mk24_1, mk24_2⟩
/-- EscapeCells$People.has(I)Z -/
def mc25_0 : List (Nat × Instr × Nat × Nat) := [(0, .iload_n 1, 1, 0), (1, .ifCond .lt 15, 3, 16), (4, .iload_n 1, 1, 0), (5, .aload_n 0, 1, 0), (6, .getfield 27, 3, 0), (9, .if_icmp .ge 7, 3, 16), (12, .iconst 1, 1, 0), (13, .goto 4, 3, 17), (16, .iconst 0, 1, 0), (17, .ireturn, 1, 0)]
theorem mk25_0 : (mc25_0).all (m_okI prog_4_method_2_code) = true := by decide +kernel
def mc25 : List (Nat × List (Nat × Instr × Nat × Nat)) := [(18, mc25_0)]
theorem mk25 : ∀ c ∈ mc25, c.2.all (m_okI prog_4_method_2_code) = true := by
  simp only [mc25, List.forall_mem_cons, List.not_mem_nil, false_implies, implies_true, and_true]
  exact mk25_0
/-- EscapeCells$People.add(III)I -/
def mc26_0 : List (Nat × Instr × Nat × Nat) := [(0, .aload_n 0, 1, 0), (1, .getfield 27, 3, 0), (4, .istore 4, 2, 0), (6, .iload 4, 2, 0), (8, .bipush 60, 2, 0), (10, .if_icmp .lt 5, 3, 15), (13, .iconst (-1), 1, 0), (14, .ireturn, 1, 0), (15, .aload_n 0, 1, 0), (16, .getfield 9, 3, 0), (19, .iload 4, 2, 0), (21, .iload_n 1, 1, 0)]
theorem mk26_0 : (mc26_0).all (m_okI prog_4_method_3_code) = true := by decide +kernel
def mc26_1 : List (Nat × Instr × Nat × Nat) := [(22, .iastore, 1, 0), (23, .aload_n 0, 1, 0), (24, .getfield 15, 3, 0), (27, .iload 4, 2, 0), (29, .iload_n 2, 1, 0), (30, .iastore, 1, 0), (31, .aload_n 0, 1, 0), (32, .getfield 18, 3, 0), (35, .iload 4, 2, 0), (37, .iload_n 3, 1, 0), (38, .iastore, 1, 0), (39, .aload_n 0, 1, 0)]
theorem mk26_1 : (mc26_1).all (m_okI prog_4_method_3_code) = true := by decide +kernel
def mc26_2 : List (Nat × Instr × Nat × Nat) := [(40, .getfield 21, 3, 0), (43, .iload 4, 2, 0), (45, .iconst (-1), 1, 0), (46, .iastore, 1, 0), (47, .aload_n 0, 1, 0), (48, .getfield 24, 3, 0), (51, .iload_n 1, 1, 0), (52, .iload 4, 2, 0), (54, .iastore, 1, 0), (55, .aload_n 0, 1, 0), (56, .dup, 1, 0), (57, .getfield 27, 3, 0)]
theorem mk26_2 : (mc26_2).all (m_okI prog_4_method_3_code) = true := by decide +kernel
def mc26_3 : List (Nat × Instr × Nat × Nat) := [(60, .iconst 1, 1, 0), (61, .iadd, 1, 0), (62, .putfield 27, 3, 0), (65, .iload 4, 2, 0), (67, .ireturn, 1, 0)]
theorem mk26_3 : (mc26_3).all (m_okI prog_4_method_3_code) = true := by decide +kernel
def mc26 : List (Nat × List (Nat × Instr × Nat × Nat)) := [(22, mc26_0), (40, mc26_1), (58, mc26_2), (68, mc26_3)]
theorem mk26 : ∀ c ∈ mc26, c.2.all (m_okI prog_4_method_3_code) = true := by
  simp only [mc26, List.forall_mem_cons, List.not_mem_nil, false_implies, implies_true, and_true]
  exact ⟨mk26_0, mk26_1, mk26_2, mk26_3⟩
/-- EscapeCells$Signposts.<init>(LEscapeCells$Storey;)V -/
def mc27_0 : List (Nat × Instr × Nat × Nat) := [(0, .aload_n 0, 1, 0), (1, .invokespecial 3, 3, 0), (4, .aload_n 0, 1, 0), (5, .aload_n 1, 1, 0), (6, .putfield 9, 3, 0), (9, .aload_n 0, 1, 0), (10, .bipush 12, 2, 0), (12, .newarray .int, 2, 0), (14, .putfield 15, 3, 0), (17, .aload_n 0, 1, 0), (18, .aload_n 1, 1, 0), (19, .getfield 19, 3, 0)]
theorem mk27_0 : (mc27_0).all (m_okI prog_5_method_1_code) = true := by decide +kernel
def mc27_1 : List (Nat × Instr × Nat × Nat) := [(22, .newarray .int, 2, 0), (24, .putfield 25, 3, 0), (27, .aload_n 0, 1, 0), (28, .sipush 156, 3, 0), (31, .newarray .int, 2, 0), (33, .putfield 28, 3, 0), (36, .aload_n 0, 1, 0), (37, .sipush 4096, 3, 0), (40, .newarray .int, 2, 0), (42, .putfield 31, 3, 0), (45, .return_, 1, 0)]
theorem mk27_1 : (mc27_1).all (m_okI prog_5_method_1_code) = true := by decide +kernel
def mc27 : List (Nat × List (Nat × Instr × Nat × Nat)) := [(20, mc27_0), (46, mc27_1)]
theorem mk27 : ∀ c ∈ mc27, c.2.all (m_okI prog_5_method_1_code) = true := by
  simp only [mc27, List.forall_mem_cons, List.not_mem_nil, false_implies, implies_true, and_true]
  exact ⟨mk27_0, mk27_1⟩
/-- EscapeCells$Signposts.countTurns([I)I -/
def mc28_0 : List (Nat × Instr × Nat × Nat) := [(0, .iconst 0, 1, 0), (1, .istore_n 2, 1, 0), (2, .iconst 0, 1, 0), (3, .istore_n 3, 1, 0), (4, .iload_n 3, 1, 0), (5, .aload_n 0, 1, 0), (6, .getfield 9, 3, 0), (9, .getfield 19, 3, 0), (12, .if_icmp .ge 21, 3, 33), (15, .aload_n 0, 1, 0), (16, .iload_n 3, 1, 0), (17, .aload_n 1, 1, 0)]
theorem mk28_0 : (mc28_0).all (m_okI prog_5_method_2_code) = true := by decide +kernel
def mc28_1 : List (Nat × Instr × Nat × Nat) := [(18, .invokevirtual 34, 3, 0), (21, .ifCond .eq 6, 3, 27), (24, .iinc 2 1, 3, 0), (27, .iinc 3 1, 3, 0), (30, .goto (-26), 3, 4), (33, .iload_n 2, 1, 0), (34, .ireturn, 1, 0)]
theorem mk28_1 : (mc28_1).all (m_okI prog_5_method_2_code) = true := by decide +kernel
def mc28 : List (Nat × List (Nat × Instr × Nat × Nat)) := [(18, mc28_0), (35, mc28_1)]
theorem mk28 : ∀ c ∈ mc28, c.2.all (m_okI prog_5_method_2_code) = true := by
  simp only [mc28, List.forall_mem_cons, List.not_mem_nil, false_implies, implies_true, and_true]
  exact ⟨mk28_0, mk28_1⟩
/-- EscapeCells$Signposts.countLeast([I)I -/
def mc29_0 : List (Nat × Instr × Nat × Nat) := [(0, .iconst 0, 1, 0), (1, .istore_n 2, 1, 0), (2, .iconst 0, 1, 0), (3, .istore_n 3, 1, 0), (4, .iload_n 3, 1, 0), (5, .aload_n 0, 1, 0), (6, .getfield 9, 3, 0), (9, .getfield 19, 3, 0), (12, .if_icmp .ge 36, 3, 48), (15, .aload_n 0, 1, 0), (16, .iload_n 3, 1, 0), (17, .aload_n 1, 1, 0)]
theorem mk29_0 : (mc29_0).all (m_okI prog_5_method_3_code) = true := by decide +kernel
def mc29_1 : List (Nat × Instr × Nat × Nat) := [(18, .invokevirtual 34, 3, 0), (21, .ifCond .eq 21, 3, 42), (24, .iload_n 2, 1, 0), (25, .bipush 12, 2, 0), (27, .if_icmp .lt 5, 3, 32), (30, .iconst (-1), 1, 0), (31, .ireturn, 1, 0), (32, .aload_n 0, 1, 0), (33, .getfield 15, 3, 0), (36, .iload_n 2, 1, 0), (37, .iload_n 3, 1, 0), (38, .iastore, 1, 0)]
theorem mk29_1 : (mc29_1).all (m_okI prog_5_method_3_code) = true := by decide +kernel
def mc29_2 : List (Nat × Instr × Nat × Nat) := [(39, .iinc 2 1, 3, 0), (42, .iinc 3 1, 3, 0), (45, .goto (-41), 3, 4), (48, .aload_n 0, 1, 0), (49, .iload_n 2, 1, 0), (50, .invokevirtual 38, 3, 0), (53, .aload_n 0, 1, 0), (54, .iload_n 2, 1, 0), (55, .aload_n 0, 1, 0), (56, .invokevirtual 42, 3, 0), (59, .invokevirtual 46, 3, 0), (62, .ireturn, 1, 0)]
theorem mk29_2 : (mc29_2).all (m_okI prog_5_method_3_code) = true := by decide +kernel
def mc29 : List (Nat × List (Nat × Instr × Nat × Nat)) := [(18, mc29_0), (39, mc29_1), (63, mc29_2)]
theorem mk29 : ∀ c ∈ mc29, c.2.all (m_okI prog_5_method_3_code) = true := by
  simp only [mc29, List.forall_mem_cons, List.not_mem_nil, false_implies, implies_true, and_true]
  exact ⟨mk29_0, mk29_1, mk29_2⟩
/-- EscapeCells$Signposts.isTurn(I[I)Z -/
def mc30_0 : List (Nat × Instr × Nat × Nat) := [(0, .iconst 0, 1, 0), (1, .istore_n 3, 1, 0), (2, .iconst 0, 1, 0), (3, .istore 4, 2, 0), (5, .iload 4, 2, 0), (7, .iconst 4, 1, 0), (8, .if_icmp .ge 48, 3, 56), (11, .aload_n 0, 1, 0), (12, .getfield 9, 3, 0), (15, .iload_n 1, 1, 0), (16, .iload 4, 2, 0), (18, .invokevirtual 50, 3, 0)]
theorem mk30_0 : (mc30_0).all (m_okI prog_5_method_4_code) = true := by decide +kernel
def mc30_1 : List (Nat × Instr × Nat × Nat) := [(21, .istore 5, 2, 0), (23, .iload 5, 2, 0), (25, .iconst (-1), 1, 0), (26, .if_icmp .eq 24, 3, 50), (29, .aload_n 2, 1, 0), (30, .iload 5, 2, 0), (32, .iaload, 1, 0), (33, .iconst (-1), 1, 0), (34, .if_icmp .eq 16, 3, 50), (37, .aload_n 2, 1, 0), (38, .iload 5, 2, 0), (40, .iaload, 1, 0)]
theorem mk30_1 : (mc30_1).all (m_okI prog_5_method_4_code) = true := by decide +kernel
def mc30_2 : List (Nat × Instr × Nat × Nat) := [(41, .aload_n 2, 1, 0), (42, .iload_n 1, 1, 0), (43, .iaload, 1, 0), (44, .if_icmp .ge 6, 3, 50), (47, .iinc 3 1, 3, 0), (50, .iinc 4 1, 3, 0), (53, .goto (-48), 3, 5), (56, .iload_n 3, 1, 0), (57, .iconst 2, 1, 0), (58, .if_icmp .lt 7, 3, 65), (61, .iconst 1, 1, 0), (62, .goto 4, 3, 66)]
theorem mk30_2 : (mc30_2).all (m_okI prog_5_method_4_code) = true := by decide +kernel
def mc30_3 : List (Nat × Instr × Nat × Nat) := [(65, .iconst 0, 1, 0), (66, .ireturn, 1, 0)]
theorem mk30_3 : (mc30_3).all (m_okI prog_5_method_4_code) = true := by decide +kernel
def mc30 : List (Nat × List (Nat × Instr × Nat × Nat)) := [(19, mc30_0), (41, mc30_1), (63, mc30_2), (67, mc30_3)]
theorem mk30 : ∀ c ∈ mc30, c.2.all (m_okI prog_5_method_4_code) = true := by
  simp only [mc30, List.forall_mem_cons, List.not_mem_nil, false_implies, implies_true, and_true]
  exact ⟨mk30_0, mk30_1, mk30_2, mk30_3⟩
/-- EscapeCells$Signposts.showTurns(I)V -/
def mc31_0 : List (Nat × Instr × Nat × Nat) := [(0, .aload_n 0, 1, 0), (1, .getfield 25, 3, 0), (4, .iconst 0, 1, 0), (5, .invokestatic 53, 3, 0), (8, .iconst 0, 1, 0), (9, .istore_n 2, 1, 0), (10, .iload_n 2, 1, 0), (11, .iload_n 1, 1, 0), (12, .if_icmp .ge 84, 3, 96), (15, .iconst 1, 1, 0), (16, .iload_n 2, 1, 0), (17, .ishl, 1, 0)]
theorem mk31_0 : (mc31_0).all (m_okI prog_5_method_5_code) = true := by decide +kernel
def mc31_1 : List (Nat × Instr × Nat × Nat) := [(18, .istore_n 3, 1, 0), (19, .aload_n 0, 1, 0), (20, .getfield 15, 3, 0), (23, .iload_n 2, 1, 0), (24, .iaload, 1, 0), (25, .istore 4, 2, 0), (27, .aload_n 0, 1, 0), (28, .getfield 25, 3, 0), (31, .iload 4, 2, 0), (33, .dup2, 1, 0), (34, .iaload, 1, 0), (35, .iload_n 3, 1, 0)]
theorem mk31_1 : (mc31_1).all (m_okI prog_5_method_5_code) = true := by decide +kernel
def mc31_2 : List (Nat × Instr × Nat × Nat) := [(36, .ior, 1, 0), (37, .iastore, 1, 0), (38, .iconst 0, 1, 0), (39, .istore 5, 2, 0), (41, .iload 5, 2, 0), (43, .iconst 4, 1, 0), (44, .if_icmp .ge 46, 3, 90), (47, .aload_n 0, 1, 0), (48, .getfield 9, 3, 0), (51, .iload 4, 2, 0), (53, .iload 5, 2, 0), (55, .invokevirtual 50, 3, 0)]
theorem mk31_2 : (mc31_2).all (m_okI prog_5_method_5_code) = true := by decide +kernel
def mc31_3 : List (Nat × Instr × Nat × Nat) := [(58, .istore 6, 2, 0), (60, .iload 6, 2, 0), (62, .iconst (-1), 1, 0), (63, .if_icmp .eq 21, 3, 84), (66, .aload_n 0, 1, 0), (67, .getfield 25, 3, 0), (70, .iload 6, 2, 0), (72, .dup2, 1, 0), (73, .iaload, 1, 0), (74, .iload_n 3, 1, 0), (75, .ior, 1, 0), (76, .iastore, 1, 0)]
theorem mk31_3 : (mc31_3).all (m_okI prog_5_method_5_code) = true := by decide +kernel
def mc31_4 : List (Nat × Instr × Nat × Nat) := [(77, .aload_n 0, 1, 0), (78, .iload 6, 2, 0), (80, .iload_n 3, 1, 0), (81, .invokevirtual 59, 3, 0), (84, .iinc 5 1, 3, 0), (87, .goto (-46), 3, 41), (90, .iinc 2 1, 3, 0), (93, .goto (-83), 3, 10), (96, .return_, 1, 0)]
theorem mk31_4 : (mc31_4).all (m_okI prog_5_method_5_code) = true := by decide +kernel
def mc31 : List (Nat × List (Nat × Instr × Nat × Nat)) := [(18, mc31_0), (36, mc31_1), (56, mc31_2), (77, mc31_3), (97, mc31_4)]
theorem mk31 : ∀ c ∈ mc31, c.2.all (m_okI prog_5_method_5_code) = true := by
  simp only [mc31, List.forall_mem_cons, List.not_mem_nil, false_implies, implies_true, and_true]
  exact ⟨mk31_0, mk31_1, mk31_2, mk31_3, mk31_4⟩
/-- EscapeCells$Signposts.showBeside(II)V -/
def mc32_0 : List (Nat × Instr × Nat × Nat) := [(0, .iconst 0, 1, 0), (1, .istore_n 3, 1, 0), (2, .iload_n 3, 1, 0), (3, .iconst 4, 1, 0), (4, .if_icmp .ge 37, 3, 41), (7, .aload_n 0, 1, 0), (8, .getfield 9, 3, 0), (11, .iload_n 1, 1, 0), (12, .iload_n 3, 1, 0), (13, .invokevirtual 50, 3, 0), (16, .istore 4, 2, 0), (18, .iload 4, 2, 0)]
theorem mk32_0 : (mc32_0).all (m_okI prog_5_method_6_code) = true := by decide +kernel
def mc32_1 : List (Nat × Instr × Nat × Nat) := [(20, .iconst (-1), 1, 0), (21, .if_icmp .eq 14, 3, 35), (24, .aload_n 0, 1, 0), (25, .getfield 25, 3, 0), (28, .iload 4, 2, 0), (30, .dup2, 1, 0), (31, .iaload, 1, 0), (32, .iload_n 2, 1, 0), (33, .ior, 1, 0), (34, .iastore, 1, 0), (35, .iinc 3 1, 3, 0), (38, .goto (-36), 3, 2)]
theorem mk32_1 : (mc32_1).all (m_okI prog_5_method_6_code) = true := by decide +kernel
def mc32_2 : List (Nat × Instr × Nat × Nat) := [(41, .return_, 1, 0)]
theorem mk32_2 : (mc32_2).all (m_okI prog_5_method_6_code) = true := by decide +kernel
def mc32 : List (Nat × List (Nat × Instr × Nat × Nat)) := [(19, mc32_0), (39, mc32_1), (42, mc32_2)]
theorem mk32 : ∀ c ∈ mc32, c.2.all (m_okI prog_5_method_6_code) = true := by
  simp only [mc32, List.forall_mem_cons, List.not_mem_nil, false_implies, implies_true, and_true]
  exact ⟨mk32_0, mk32_1, mk32_2⟩
/-- EscapeCells$Signposts.listShowings()I -/
def mc33_0 : List (Nat × Instr × Nat × Nat) := [(0, .iconst 0, 1, 0), (1, .istore_n 1, 1, 0), (2, .iconst 0, 1, 0), (3, .istore_n 2, 1, 0), (4, .iload_n 2, 1, 0), (5, .aload_n 0, 1, 0), (6, .getfield 9, 3, 0), (9, .getfield 19, 3, 0), (12, .if_icmp .ge 54, 3, 66), (15, .aload_n 0, 1, 0), (16, .getfield 25, 3, 0), (19, .iload_n 2, 1, 0)]
theorem mk33_0 : (mc33_0).all (m_okI prog_5_method_7_code) = true := by decide +kernel
def mc33_1 : List (Nat × Instr × Nat × Nat) := [(20, .iaload, 1, 0), (21, .ifCond .eq 39, 3, 60), (24, .iload_n 1, 1, 0), (25, .sipush 156, 3, 0), (28, .if_icmp .ge 32, 3, 60), (31, .aload_n 0, 1, 0), (32, .aload_n 0, 1, 0), (33, .getfield 25, 3, 0), (36, .iload_n 2, 1, 0), (37, .iaload, 1, 0), (38, .iload_n 1, 1, 0), (39, .invokevirtual 63, 3, 0)]
theorem mk33_1 : (mc33_1).all (m_okI prog_5_method_7_code) = true := by decide +kernel
def mc33_2 : List (Nat × Instr × Nat × Nat) := [(42, .ifCond .ne 18, 3, 60), (45, .aload_n 0, 1, 0), (46, .getfield 28, 3, 0), (49, .iload_n 1, 1, 0), (50, .aload_n 0, 1, 0), (51, .getfield 25, 3, 0), (54, .iload_n 2, 1, 0), (55, .iaload, 1, 0), (56, .iastore, 1, 0), (57, .iinc 1 1, 3, 0), (60, .iinc 2 1, 3, 0), (63, .goto (-59), 3, 4)]
theorem mk33_2 : (mc33_2).all (m_okI prog_5_method_7_code) = true := by decide +kernel
def mc33_3 : List (Nat × Instr × Nat × Nat) := [(66, .iload_n 1, 1, 0), (67, .ireturn, 1, 0)]
theorem mk33_3 : (mc33_3).all (m_okI prog_5_method_7_code) = true := by decide +kernel
def mc33 : List (Nat × List (Nat × Instr × Nat × Nat)) := [(20, mc33_0), (40, mc33_1), (64, mc33_2), (68, mc33_3)]
theorem mk33 : ∀ c ∈ mc33, c.2.all (m_okI prog_5_method_7_code) = true := by
  simp only [mc33, List.forall_mem_cons, List.not_mem_nil, false_implies, implies_true, and_true]
  exact ⟨mk33_0, mk33_1, mk33_2, mk33_3⟩
/-- EscapeCells$Signposts.isListed(II)Z -/
def mc34_0 : List (Nat × Instr × Nat × Nat) := [(0, .iconst 0, 1, 0), (1, .istore_n 3, 1, 0), (2, .iload_n 3, 1, 0), (3, .iload_n 2, 1, 0), (4, .if_icmp .ge 21, 3, 25), (7, .aload_n 0, 1, 0), (8, .getfield 28, 3, 0), (11, .iload_n 3, 1, 0), (12, .iaload, 1, 0), (13, .iload_n 1, 1, 0), (14, .if_icmp .ne 5, 3, 19), (17, .iconst 1, 1, 0)]
theorem mk34_0 : (mc34_0).all (m_okI prog_5_method_8_code) = true := by decide +kernel
def mc34_1 : List (Nat × Instr × Nat × Nat) := [(18, .ireturn, 1, 0), (19, .iinc 3 1, 3, 0), (22, .goto (-20), 3, 2), (25, .iconst 0, 1, 0), (26, .ireturn, 1, 0)]
theorem mk34_1 : (mc34_1).all (m_okI prog_5_method_8_code) = true := by decide +kernel
def mc34 : List (Nat × List (Nat × Instr × Nat × Nat)) := [(18, mc34_0), (27, mc34_1)]
theorem mk34 : ∀ c ∈ mc34, c.2.all (m_okI prog_5_method_8_code) = true := by
  simp only [mc34, List.forall_mem_cons, List.not_mem_nil, false_implies, implies_true, and_true]
  exact ⟨mk34_0, mk34_1⟩
/-- EscapeCells$Signposts.leastOf(II)I -/
def mc35_0 : List (Nat × Instr × Nat × Nat) := [(0, .iconst 1, 1, 0), (1, .iload_n 1, 1, 0), (2, .ishl, 1, 0), (3, .iconst 1, 1, 0), (4, .isub, 1, 0), (5, .istore_n 3, 1, 0), (6, .aload_n 0, 1, 0), (7, .getfield 31, 3, 0), (10, .bipush 13, 2, 0), (12, .invokestatic 53, 3, 0), (15, .aload_n 0, 1, 0), (16, .getfield 31, 3, 0)]
theorem mk35_0 : (mc35_0).all (m_okI prog_5_method_9_code) = true := by decide +kernel
def mc35_1 : List (Nat × Instr × Nat × Nat) := [(19, .iconst 0, 1, 0), (20, .iconst 0, 1, 0), (21, .iastore, 1, 0), (22, .iconst 0, 1, 0), (23, .istore 4, 2, 0), (25, .iload 4, 2, 0), (27, .iload_n 3, 1, 0), (28, .if_icmp .ge 97, 3, 125), (31, .iload 4, 2, 0), (33, .iconst (-1), 1, 0), (34, .ixor, 1, 0), (35, .iload 4, 2, 0)]
theorem mk35_1 : (mc35_1).all (m_okI prog_5_method_9_code) = true := by decide +kernel
def mc35_2 : List (Nat × Instr × Nat × Nat) := [(37, .iconst 1, 1, 0), (38, .iadd, 1, 0), (39, .iand, 1, 0), (40, .istore 5, 2, 0), (42, .aload_n 0, 1, 0), (43, .getfield 31, 3, 0), (46, .iload 4, 2, 0), (48, .iaload, 1, 0), (49, .iconst 1, 1, 0), (50, .iadd, 1, 0), (51, .istore 6, 2, 0), (53, .iconst 0, 1, 0)]
theorem mk35_2 : (mc35_2).all (m_okI prog_5_method_9_code) = true := by decide +kernel
def mc35_3 : List (Nat × Instr × Nat × Nat) := [(54, .istore 7, 2, 0), (56, .iload 7, 2, 0), (58, .iload_n 2, 1, 0), (59, .if_icmp .ge 60, 3, 119), (62, .iload 6, 2, 0), (64, .bipush 12, 2, 0), (66, .if_icmp .gt 53, 3, 119), (69, .aload_n 0, 1, 0), (70, .getfield 28, 3, 0), (73, .iload 7, 2, 0), (75, .iaload, 1, 0), (76, .iload 5, 2, 0)]
theorem mk35_3 : (mc35_3).all (m_okI prog_5_method_9_code) = true := by decide +kernel
def mc35_4 : List (Nat × Instr × Nat × Nat) := [(78, .iand, 1, 0), (79, .ifCond .eq 34, 3, 113), (82, .iload 4, 2, 0), (84, .aload_n 0, 1, 0), (85, .getfield 28, 3, 0), (88, .iload 7, 2, 0), (90, .iaload, 1, 0), (91, .ior, 1, 0), (92, .istore 8, 2, 0), (94, .aload_n 0, 1, 0), (95, .getfield 31, 3, 0), (98, .iload 8, 2, 0)]
theorem mk35_4 : (mc35_4).all (m_okI prog_5_method_9_code) = true := by decide +kernel
def mc35_5 : List (Nat × Instr × Nat × Nat) := [(100, .aload_n 0, 1, 0), (101, .getfield 31, 3, 0), (104, .iload 8, 2, 0), (106, .iaload, 1, 0), (107, .iload 6, 2, 0), (109, .invokestatic 67, 3, 0), (112, .iastore, 1, 0), (113, .iinc 7 1, 3, 0), (116, .goto (-60), 3, 56), (119, .iinc 4 1, 3, 0), (122, .goto (-97), 3, 25), (125, .aload_n 0, 1, 0)]
theorem mk35_5 : (mc35_5).all (m_okI prog_5_method_9_code) = true := by decide +kernel
def mc35_6 : List (Nat × Instr × Nat × Nat) := [(126, .getfield 31, 3, 0), (129, .iload_n 3, 1, 0), (130, .iaload, 1, 0), (131, .ireturn, 1, 0)]
theorem mk35_6 : (mc35_6).all (m_okI prog_5_method_9_code) = true := by decide +kernel
def mc35 : List (Nat × List (Nat × Instr × Nat × Nat)) := [(17, mc35_0), (36, mc35_1), (54, mc35_2), (77, mc35_3), (99, mc35_4), (126, mc35_5), (132, mc35_6)]
theorem mk35 : ∀ c ∈ mc35, c.2.all (m_okI prog_5_method_9_code) = true := by
  simp only [mc35, List.forall_mem_cons, List.not_mem_nil, false_implies, implies_true, and_true]
  exact ⟨mk35_0, mk35_1, mk35_2, mk35_3, mk35_4, mk35_5, mk35_6⟩
