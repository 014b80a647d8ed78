/-- EscapeCellsLaw.cell([II)I -/
def mc105_0 : List (Nat × Instr × Nat × Nat) := [(0, .iload_n 1, 1, 0), (1, .aload_n 0, 1, 0), (2, .arraylength, 1, 0), (3, .if_icmp .ge 9, 3, 12), (6, .aload_n 0, 1, 0), (7, .iload_n 1, 1, 0), (8, .iaload, 1, 0), (9, .goto 4, 3, 13), (12, .iconst 0, 1, 0), (13, .ireturn, 1, 0)]
theorem mk105_0 : (mc105_0).all (m_okI method_2_code) = true := by decide +kernel
def mc105 : List (Nat × List (Nat × Instr × Nat × Nat)) := [(14, mc105_0)]
theorem mk105 : ∀ c ∈ mc105, c.2.all (m_okI method_2_code) = true := by
  simp only [mc105, List.forall_mem_cons, List.not_mem_nil, false_implies, implies_true, and_true]
  exact mk105_0
/-- EscapeCellsLaw.wall(LEscapeCells;IIZ[J)I -/
def mc106_0 : List (Nat × Instr × Nat × Nat) := [(0, .aload 4, 2, 0), (2, .iconst 0, 1, 0), (3, .aload_n 0, 1, 0), (4, .iload_n 1, 1, 0), (5, .iload_n 2, 1, 0), (6, .iload_n 3, 1, 0), (7, .invokevirtual 7, 3, 0), (10, .ifCond .eq 7, 3, 17), (13, .lconst 1, 1, 0), (14, .goto 4, 3, 18), (17, .lconst 0, 1, 0), (18, .lastore, 1, 0)]
theorem mk106_0 : (mc106_0).all (m_okI method_3_code) = true := by decide +kernel
def mc106_1 : List (Nat × Instr × Nat × Nat) := [(19, .goto 11, 3, 30), (22, .astore 5, 2, 0), (24, .iconst 1, 1, 0), (25, .ireturn, 1, 0), (26, .astore 5, 2, 0), (28, .iconst 2, 1, 0), (29, .ireturn, 1, 0), (30, .iconst 0, 1, 0), (31, .ireturn, 1, 0)]
theorem mk106_1 : (mc106_1).all (m_okI method_3_code) = true := by decide +kernel
def mc106 : List (Nat × List (Nat × Instr × Nat × Nat)) := [(19, mc106_0), (32, mc106_1)]
theorem mk106 : ∀ c ∈ mc106, c.2.all (m_okI method_3_code) = true := by
  simp only [mc106, List.forall_mem_cons, List.not_mem_nil, false_implies, implies_true, and_true]
  exact ⟨mk106_0, mk106_1⟩
/-- EscapeCellsLaw.exit(LEscapeCells;III[J)I -/
def mc107_0 : List (Nat × Instr × Nat × Nat) := [(0, .aload 4, 2, 0), (2, .iconst 0, 1, 0), (3, .aload_n 0, 1, 0), (4, .iload_n 1, 1, 0), (5, .iload_n 2, 1, 0), (6, .iload_n 3, 1, 0), (7, .invokevirtual 17, 3, 0), (10, .i2l, 1, 0), (11, .lastore, 1, 0), (12, .goto 11, 3, 23), (15, .astore 5, 2, 0), (17, .iconst 1, 1, 0)]
theorem mk107_0 : (mc107_0).all (m_okI method_4_code) = true := by decide +kernel
def mc107_1 : List (Nat × Instr × Nat × Nat) := [(18, .ireturn, 1, 0), (19, .astore 5, 2, 0), (21, .iconst 2, 1, 0), (22, .ireturn, 1, 0), (23, .iconst 0, 1, 0), (24, .ireturn, 1, 0)]
theorem mk107_1 : (mc107_1).all (m_okI method_4_code) = true := by decide +kernel
def mc107 : List (Nat × List (Nat × Instr × Nat × Nat)) := [(18, mc107_0), (25, mc107_1)]
theorem mk107 : ∀ c ∈ mc107, c.2.all (m_okI method_4_code) = true := by
  simp only [mc107, List.forall_mem_cons, List.not_mem_nil, false_implies, implies_true, and_true]
  exact ⟨mk107_0, mk107_1⟩
/-- EscapeCellsLaw.door(LEscapeCells;III)I -/
def mc108_0 : List (Nat × Instr × Nat × Nat) := [(0, .aload_n 0, 1, 0), (1, .iload_n 1, 1, 0), (2, .iload_n 2, 1, 0), (3, .iload_n 3, 1, 0), (4, .invokevirtual 21, 3, 0), (7, .goto 11, 3, 18), (10, .astore 4, 2, 0), (12, .iconst 1, 1, 0), (13, .ireturn, 1, 0), (14, .astore 4, 2, 0), (16, .iconst 2, 1, 0), (17, .ireturn, 1, 0)]
theorem mk108_0 : (mc108_0).all (m_okI method_5_code) = true := by decide +kernel
def mc108_1 : List (Nat × Instr × Nat × Nat) := [(18, .iconst 0, 1, 0), (19, .ireturn, 1, 0)]
theorem mk108_1 : (mc108_1).all (m_okI method_5_code) = true := by decide +kernel
def mc108 : List (Nat × List (Nat × Instr × Nat × Nat)) := [(18, mc108_0), (20, mc108_1)]
theorem mk108 : ∀ c ∈ mc108, c.2.all (m_okI method_5_code) = true := by
  simp only [mc108, List.forall_mem_cons, List.not_mem_nil, false_implies, implies_true, and_true]
  exact ⟨mk108_0, mk108_1⟩
/-- EscapeCellsLaw.smoke(LEscapeCells;III[J)I -/
def mc109_0 : List (Nat × Instr × Nat × Nat) := [(0, .aload 4, 2, 0), (2, .iconst 0, 1, 0), (3, .aload_n 0, 1, 0), (4, .iload_n 1, 1, 0), (5, .iload_n 2, 1, 0), (6, .iload_n 3, 1, 0), (7, .invokevirtual 25, 3, 0), (10, .i2l, 1, 0), (11, .lastore, 1, 0), (12, .goto 7, 3, 19), (15, .astore 5, 2, 0), (17, .iconst 1, 1, 0)]
theorem mk109_0 : (mc109_0).all (m_okI method_6_code) = true := by decide +kernel
def mc109_1 : List (Nat × Instr × Nat × Nat) := [(18, .ireturn, 1, 0), (19, .iconst 0, 1, 0), (20, .ireturn, 1, 0)]
theorem mk109_1 : (mc109_1).all (m_okI method_6_code) = true := by decide +kernel
def mc109 : List (Nat × List (Nat × Instr × Nat × Nat)) := [(18, mc109_0), (21, mc109_1)]
theorem mk109 : ∀ c ∈ mc109, c.2.all (m_okI method_6_code) = true := by
  simp only [mc109, List.forall_mem_cons, List.not_mem_nil, false_implies, implies_true, and_true]
  exact ⟨mk109_0, mk109_1⟩
/-- EscapeCellsLaw.person(LEscapeCells;IIII[J)I -/
def mc110_0 : List (Nat × Instr × Nat × Nat) := [(0, .aload 5, 2, 0), (2, .iconst 0, 1, 0), (3, .aload_n 0, 1, 0), (4, .iload_n 1, 1, 0), (5, .iload_n 2, 1, 0), (6, .iload_n 3, 1, 0), (7, .iload 4, 2, 0), (9, .invokevirtual 28, 3, 0), (12, .i2l, 1, 0), (13, .lastore, 1, 0), (14, .goto 11, 3, 25), (17, .astore 6, 2, 0)]
theorem mk110_0 : (mc110_0).all (m_okI method_7_code) = true := by decide +kernel
def mc110_1 : List (Nat × Instr × Nat × Nat) := [(19, .iconst 1, 1, 0), (20, .ireturn, 1, 0), (21, .astore 6, 2, 0), (23, .iconst 2, 1, 0), (24, .ireturn, 1, 0), (25, .iconst 0, 1, 0), (26, .ireturn, 1, 0)]
theorem mk110_1 : (mc110_1).all (m_okI method_7_code) = true := by decide +kernel
def mc110 : List (Nat × List (Nat × Instr × Nat × Nat)) := [(18, mc110_0), (27, mc110_1)]
theorem mk110 : ∀ c ∈ mc110, c.2.all (m_okI method_7_code) = true := by
  simp only [mc110, List.forall_mem_cons, List.not_mem_nil, false_implies, implies_true, and_true]
  exact ⟨mk110_0, mk110_1⟩
/-- EscapeCellsLaw.habit(LEscapeCells;II[J)I -/
def mc111_0 : List (Nat × Instr × Nat × Nat) := [(0, .aload_n 3, 1, 0), (1, .iconst 0, 1, 0), (2, .aload_n 0, 1, 0), (3, .iload_n 1, 1, 0), (4, .iload_n 2, 1, 0), (5, .invokevirtual 32, 3, 0), (8, .i2l, 1, 0), (9, .lastore, 1, 0), (10, .goto 7, 3, 17), (13, .astore 4, 2, 0), (15, .iconst 1, 1, 0), (16, .ireturn, 1, 0)]
theorem mk111_0 : (mc111_0).all (m_okI method_8_code) = true := by decide +kernel
def mc111_1 : List (Nat × Instr × Nat × Nat) := [(17, .iconst 0, 1, 0), (18, .ireturn, 1, 0)]
theorem mk111_1 : (mc111_1).all (m_okI method_8_code) = true := by decide +kernel
def mc111 : List (Nat × List (Nat × Instr × Nat × Nat)) := [(17, mc111_0), (19, mc111_1)]
theorem mk111 : ∀ c ∈ mc111, c.2.all (m_okI method_8_code) = true := by
  simp only [mc111, List.forall_mem_cons, List.not_mem_nil, false_implies, implies_true, and_true]
  exact ⟨mk111_0, mk111_1⟩
/-- EscapeCellsLaw.walk(LEscapeCells;III[J)I -/
def mc112_0 : List (Nat × Instr × Nat × Nat) := [(0, .aload 4, 2, 0), (2, .iconst 0, 1, 0), (3, .aload_n 0, 1, 0), (4, .iload_n 1, 1, 0), (5, .iload_n 2, 1, 0), (6, .iload_n 3, 1, 0), (7, .invokevirtual 36, 3, 0), (10, .i2l, 1, 0), (11, .lastore, 1, 0), (12, .goto 7, 3, 19), (15, .astore 5, 2, 0), (17, .iconst 1, 1, 0)]
theorem mk112_0 : (mc112_0).all (m_okI method_9_code) = true := by decide +kernel
def mc112_1 : List (Nat × Instr × Nat × Nat) := [(18, .ireturn, 1, 0), (19, .iconst 0, 1, 0), (20, .ireturn, 1, 0)]
theorem mk112_1 : (mc112_1).all (m_okI method_9_code) = true := by decide +kernel
def mc112 : List (Nat × List (Nat × Instr × Nat × Nat)) := [(18, mc112_0), (21, mc112_1)]
theorem mk112 : ∀ c ∈ mc112, c.2.all (m_okI method_9_code) = true := by
  simp only [mc112, List.forall_mem_cons, List.not_mem_nil, false_implies, implies_true, and_true]
  exact ⟨mk112_0, mk112_1⟩
/-- EscapeCellsLaw.told(LEscapeCells;II[J)I -/
def mc113_0 : List (Nat × Instr × Nat × Nat) := [(0, .aload_n 3, 1, 0), (1, .iconst 0, 1, 0), (2, .aload_n 0, 1, 0), (3, .iload_n 1, 1, 0), (4, .iload_n 2, 1, 0), (5, .invokevirtual 39, 3, 0), (8, .i2l, 1, 0), (9, .lastore, 1, 0), (10, .goto 11, 3, 21), (13, .astore 4, 2, 0), (15, .iconst 1, 1, 0), (16, .ireturn, 1, 0)]
theorem mk113_0 : (mc113_0).all (m_okI method_10_code) = true := by decide +kernel
def mc113_1 : List (Nat × Instr × Nat × Nat) := [(17, .astore 4, 2, 0), (19, .iconst 2, 1, 0), (20, .ireturn, 1, 0), (21, .iconst 0, 1, 0), (22, .ireturn, 1, 0)]
theorem mk113_1 : (mc113_1).all (m_okI method_10_code) = true := by decide +kernel
def mc113 : List (Nat × List (Nat × Instr × Nat × Nat)) := [(17, mc113_0), (23, mc113_1)]
theorem mk113 : ∀ c ∈ mc113, c.2.all (m_okI method_10_code) = true := by
  simp only [mc113, List.forall_mem_cons, List.not_mem_nil, false_implies, implies_true, and_true]
  exact ⟨mk113_0, mk113_1⟩
/-- EscapeCellsLaw.at(LEscapeCells;III[J)I -/
def mc114_0 : List (Nat × Instr × Nat × Nat) := [(0, .aload 4, 2, 0), (2, .iconst 0, 1, 0), (3, .aload_n 0, 1, 0), (4, .iload_n 1, 1, 0), (5, .iload_n 2, 1, 0), (6, .iload_n 3, 1, 0), (7, .invokevirtual 42, 3, 0), (10, .i2l, 1, 0), (11, .lastore, 1, 0), (12, .goto 11, 3, 23), (15, .astore 5, 2, 0), (17, .iconst 1, 1, 0)]
theorem mk114_0 : (mc114_0).all (m_okI method_11_code) = true := by decide +kernel
def mc114_1 : List (Nat × Instr × Nat × Nat) := [(18, .ireturn, 1, 0), (19, .astore 5, 2, 0), (21, .iconst 2, 1, 0), (22, .ireturn, 1, 0), (23, .iconst 0, 1, 0), (24, .ireturn, 1, 0)]
theorem mk114_1 : (mc114_1).all (m_okI method_11_code) = true := by decide +kernel
def mc114 : List (Nat × List (Nat × Instr × Nat × Nat)) := [(18, mc114_0), (25, mc114_1)]
theorem mk114 : ∀ c ∈ mc114, c.2.all (m_okI method_11_code) = true := by
  simp only [mc114, List.forall_mem_cons, List.not_mem_nil, false_implies, implies_true, and_true]
  exact ⟨mk114_0, mk114_1⟩
/-- EscapeCellsLaw.through(LEscapeCells;II[J)I -/
def mc115_0 : List (Nat × Instr × Nat × Nat) := [(0, .aload_n 3, 1, 0), (1, .iconst 0, 1, 0), (2, .aload_n 0, 1, 0), (3, .iload_n 1, 1, 0), (4, .iload_n 2, 1, 0), (5, .invokevirtual 45, 3, 0), (8, .i2l, 1, 0), (9, .lastore, 1, 0), (10, .goto 11, 3, 21), (13, .astore 4, 2, 0), (15, .iconst 1, 1, 0), (16, .ireturn, 1, 0)]
theorem mk115_0 : (mc115_0).all (m_okI method_12_code) = true := by decide +kernel
def mc115_1 : List (Nat × Instr × Nat × Nat) := [(17, .astore 4, 2, 0), (19, .iconst 2, 1, 0), (20, .ireturn, 1, 0), (21, .iconst 0, 1, 0), (22, .ireturn, 1, 0)]
theorem mk115_1 : (mc115_1).all (m_okI method_12_code) = true := by decide +kernel
def mc115 : List (Nat × List (Nat × Instr × Nat × Nat)) := [(17, mc115_0), (23, mc115_1)]
theorem mk115 : ∀ c ∈ mc115, c.2.all (m_okI method_12_code) = true := by
  simp only [mc115, List.forall_mem_cons, List.not_mem_nil, false_implies, implies_true, and_true]
  exact ⟨mk115_0, mk115_1⟩
/-- EscapeCellsLaw.left(LEscapeCells;I[J)I -/
def mc116_0 : List (Nat × Instr × Nat × Nat) := [(0, .aload_n 2, 1, 0), (1, .iconst 0, 1, 0), (2, .aload_n 0, 1, 0), (3, .iload_n 1, 1, 0), (4, .invokevirtual 48, 3, 0), (7, .i2l, 1, 0), (8, .lastore, 1, 0), (9, .goto 9, 3, 18), (12, .astore_n 3, 1, 0), (13, .iconst 1, 1, 0), (14, .ireturn, 1, 0), (15, .astore_n 3, 1, 0)]
theorem mk116_0 : (mc116_0).all (m_okI method_13_code) = true := by decide +kernel
def mc116_1 : List (Nat × Instr × Nat × Nat) := [(16, .iconst 2, 1, 0), (17, .ireturn, 1, 0), (18, .iconst 0, 1, 0), (19, .ireturn, 1, 0)]
theorem mk116_1 : (mc116_1).all (m_okI method_13_code) = true := by decide +kernel
def mc116 : List (Nat × List (Nat × Instr × Nat × Nat)) := [(16, mc116_0), (20, mc116_1)]
theorem mk116 : ∀ c ∈ mc116, c.2.all (m_okI method_13_code) = true := by
  simp only [mc116, List.forall_mem_cons, List.not_mem_nil, false_implies, implies_true, and_true]
  exact ⟨mk116_0, mk116_1⟩
