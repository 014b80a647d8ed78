theorem m_wM : ∀ y, y < 119 → m_ckM y = true := by
  intro y hy
  rcases Nat.lt_or_ge y 12 with h0 | h0
  · refine List.all_eq_true.mp m_wM_0 y ?_
    simp only [List.mem_cons, List.not_mem_nil, or_false]
    omega
  rcases Nat.lt_or_ge y 24 with h12 | h12
  · refine List.all_eq_true.mp m_wM_12 y ?_
    simp only [List.mem_cons, List.not_mem_nil, or_false]
    omega
  rcases Nat.lt_or_ge y 36 with h24 | h24
  · refine List.all_eq_true.mp m_wM_24 y ?_
    simp only [List.mem_cons, List.not_mem_nil, or_false]
    omega
  rcases Nat.lt_or_ge y 48 with h36 | h36
  · refine List.all_eq_true.mp m_wM_36 y ?_
    simp only [List.mem_cons, List.not_mem_nil, or_false]
    omega
  rcases Nat.lt_or_ge y 60 with h48 | h48
  · refine List.all_eq_true.mp m_wM_48 y ?_
    simp only [List.mem_cons, List.not_mem_nil, or_false]
    omega
  rcases Nat.lt_or_ge y 72 with h60 | h60
  · refine List.all_eq_true.mp m_wM_60 y ?_
    simp only [List.mem_cons, List.not_mem_nil, or_false]
    omega
  rcases Nat.lt_or_ge y 84 with h72 | h72
  · refine List.all_eq_true.mp m_wM_72 y ?_
    simp only [List.mem_cons, List.not_mem_nil, or_false]
    omega
  rcases Nat.lt_or_ge y 96 with h84 | h84
  · refine List.all_eq_true.mp m_wM_84 y ?_
    simp only [List.mem_cons, List.not_mem_nil, or_false]
    omega
  rcases Nat.lt_or_ge y 108 with h96 | h96
  · refine List.all_eq_true.mp m_wM_96 y ?_
    simp only [List.mem_cons, List.not_mem_nil, or_false]
    omega
  rcases Nat.lt_or_ge y 119 with h108 | h108
  · refine List.all_eq_true.mp m_wM_108 y ?_
    simp only [List.mem_cons, List.not_mem_nil, or_false]
    omega
  omega
/-- the entries of calls, of the calls that are one step, of classes, of constants -/
def m_ckL (o : Nat) (q : Nat × Nat) : Bool := decide (Cond.methodLink (m_R o) q.1 (m_mn q.2) ∈ m_tb) && (decide (q.2 < 117) || decide (q.2 = 118))
def m_ckP (o : Nat) (q : Nat × Nat) : Bool := match q.2 with
  | 1 => decide (Cond.methodLink (m_R o) q.1 Lib.objectInit ∈ m_tb)
  | 2 => decide (Cond.methodLink (m_R o) q.1 ⟨m_R 7, "<init>", "(Ljava/lang/String;)V"⟩ ∈ m_tb) || decide (Cond.methodLink (m_R o) q.1 ⟨m_R 8, "<init>", "(Ljava/lang/String;)V"⟩ ∈ m_tb)
  | 3 => decide (Cond.methodLink (m_R o) q.1 Lib.Math.max.name ∈ m_tb)
  | 4 => decide (Cond.methodLink (m_R o) q.1 Lib.Math.min.name ∈ m_tb)
  | 5 => decide (Cond.methodLink (m_R o) q.1 arraycopyName ∈ m_tb)
  | _ => false
def m_ckN (o : Nat) (q : Nat × Nat) : Bool := decide (Cond.classLink (m_R o) q.1 (m_R q.2) ∈ m_tb) && decide (q.2 < 9)
def m_ckI (o : Nat) (q : Nat × Value) : Bool := match q.2 with
  | .int v => decide (Cond.constant (m_R o) q.1 v ∈ m_tb)
  | .ref k => decide (m_sB + 100 ≤ k ∧ k < m_sB + 115)
  | _ => false
def m_ckA (o : Nat) : Bool := (m_clss.getD o []).all (m_ckL o) && ((m_prs.getD o []).all (m_ckP o) && ((m_nes.getD o []).all (m_ckN o) && (m_lcs.getD o []).all (m_ckI o)))
set_option maxRecDepth 100000 in
theorem m_wA0 : m_ckA 0 = true := by decide +kernel
set_option maxRecDepth 100000 in
theorem m_wA1 : m_ckA 1 = true := by decide +kernel
set_option maxRecDepth 100000 in
theorem m_wA2 : m_ckA 2 = true := by decide +kernel
set_option maxRecDepth 100000 in
theorem m_wA3 : m_ckA 3 = true := by decide +kernel
set_option maxRecDepth 100000 in
theorem m_wA4 : m_ckA 4 = true := by decide +kernel
set_option maxRecDepth 100000 in
theorem m_wA5 : m_ckA 5 = true := by decide +kernel
set_option maxRecDepth 100000 in
theorem m_wA6 : m_ckA 6 = true := by decide +kernel
set_option maxRecDepth 100000 in
theorem m_wA7 : m_ckA 7 = true := by decide +kernel
set_option maxRecDepth 100000 in
theorem m_wA8 : m_ckA 8 = true := by decide +kernel
set_option maxRecDepth 100000 in
theorem m_wA9 : m_ckA 9 = true := by decide +kernel
set_option maxRecDepth 100000 in
theorem m_wA10 : m_ckA 10 = true := by decide +kernel
theorem m_wA : ∀ o, m_ckA o = true
  | 0 => m_wA0
  | 1 => m_wA1
  | 2 => m_wA2
  | 3 => m_wA3
  | 4 => m_wA4
  | 5 => m_wA5
  | 6 => m_wA6
  | 7 => m_wA7
  | 8 => m_wA8
  | 9 => m_wA9
  | 10 => m_wA10
  | n + 11 => by simp [m_ckA, m_clss, m_prs, m_nes, m_lcs]
set_option maxRecDepth 100000 in
theorem m_w1 : [Cond.instanceMethod Lib.objectInit, Cond.code Lib.objectInit ⟨#[0xb1]⟩ 1 none, Cond.static Lib.Math.max.name, Cond.initialized "java/lang/Math", Cond.code Lib.Math.max.name Lib.Math.max.code 2 (some .int), Cond.static Lib.Math.min.name, Cond.code Lib.Math.min.name Lib.Math.min.code 2 (some .int), Cond.native arraycopyName, Cond.static arraycopyName, Cond.initialized "java/lang/System", Cond.arrayClass .int, Cond.arrayClass .boolean, Cond.arrayClass .long].all (fun w => decide (w ∈ m_tb)) = true := by decide +kernel
