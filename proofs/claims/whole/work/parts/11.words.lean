/-! the tables' words behind the machine's tables -/
/-- those of the words that stay true under warmer tables as they are -/
def m_tb : List Cond := lw_tbl.filter goodWord
theorem m_tb_in {w : Cond} (h : w ∈ m_tb) : w ∈ lw_tbl ∧ ((w.onTables && w.keeps) = true ∨ ∃ ty, w = .arrayClass ty) := by
  obtain ⟨h1, h2⟩ := List.mem_filter.mp h
  exact ⟨h1, good_of_word h2⟩
/-- a field's entry -/
def m_ckF (o : Nat) (q : Nat × Nat × Nat) : Bool := match m_cls[q.2.1]? with
  | some r => decide (Cond.fieldLink (m_R o) q.1 r.1 (r.2.1 q.2.2).2.1 (r.2.1 q.2.2).2.2.1 ∈ m_tb) && (decide (q.2.2 < r.2.2) && (decide ((r.2.1 q.2.2).1 = r.1) && (decide ((r.2.1 q.2.2).2.2.2 = m_fin q.2.1 q.2.2) && decide (m_R q.2.1 = r.1))))
  | none => false
set_option maxRecDepth 100000 in
theorem m_wF0 : (m_fls.getD 0 []).all (m_ckF 0) = true := by decide +kernel
set_option maxRecDepth 100000 in
theorem m_wF1 : (m_fls.getD 1 []).all (m_ckF 1) = true := by decide +kernel
set_option maxRecDepth 100000 in
theorem m_wF2 : (m_fls.getD 2 []).all (m_ckF 2) = true := by decide +kernel
set_option maxRecDepth 100000 in
theorem m_wF3 : (m_fls.getD 3 []).all (m_ckF 3) = true := by decide +kernel
set_option maxRecDepth 100000 in
theorem m_wF4 : (m_fls.getD 4 []).all (m_ckF 4) = true := by decide +kernel
set_option maxRecDepth 100000 in
theorem m_wF5 : (m_fls.getD 5 []).all (m_ckF 5) = true := by decide +kernel
set_option maxRecDepth 100000 in
theorem m_wF6 : (m_fls.getD 6 []).all (m_ckF 6) = true := by decide +kernel
theorem m_wF : ∀ o, (m_fls.getD o []).all (m_ckF o) = true
  | 0 => m_wF0
  | 1 => m_wF1
  | 2 => m_wF2
  | 3 => m_wF3
  | 4 => m_wF4
  | 5 => m_wF5
  | 6 => m_wF6
  | 7 => rfl
  | 8 => rfl
  | 9 => rfl
  | 10 => rfl
  | n + 11 => by simp [m_fls]
/-- a class of m_cls: its words, its types, its names -/
def m_ckC (ci : Nat) : Bool := match m_cls[ci]? with
  | some r => (u_ws r.1 r.2.1 r.2.2).all (fun w => decide (w ∈ m_tb)) && ((List.range r.2.2).all (fun k => decide (parseFieldDescriptor (r.2.1 k).2.2.1 = some (m_ty ci k))) && ((List.range r.2.2).all (fun a => (List.range r.2.2).all (fun b => decide (a = b) || !decide ((r.2.1 a).2.1 = (r.2.1 b).2.1))) &&
    (decide (Cond.instantiable r.1 r.2.2 ∈ m_tb) && (decide (Cond.initialized r.1 ∈ m_tb) && (decide (r.2.2 = m_sz ci) && (decide ((m_df ci).length = r.2.2) && ((List.range r.2.2).all (fun k => decide (defaultValue (m_ty ci k) = (m_df ci).getD k .null)) && decide (m_R ci = r.1))))))))
  | none => false
set_option maxRecDepth 100000 in
theorem m_wC0 : m_ckC 0 = true := by decide +kernel
set_option maxRecDepth 100000 in
theorem m_wC1 : m_ckC 1 = true := by decide +kernel
set_option maxRecDepth 100000 in
theorem m_wC2 : m_ckC 2 = true := by decide +kernel
set_option maxRecDepth 100000 in
theorem m_wC3 : m_ckC 3 = true := by decide +kernel
set_option maxRecDepth 100000 in
theorem m_wC4 : m_ckC 4 = true := by decide +kernel
set_option maxRecDepth 100000 in
theorem m_wC5 : m_ckC 5 = true := by decide +kernel
set_option maxRecDepth 100000 in
theorem m_wC6 : m_ckC 6 = true := by decide +kernel
theorem m_wC : ∀ ci, ci < 7 → m_ckC ci = true
  | 0, _ => m_wC0
  | 1, _ => m_wC1
  | 2, _ => m_wC2
  | 3, _ => m_wC3
  | 4, _ => m_wC4
  | 5, _ => m_wC5
  | 6, _ => m_wC6
  | n + 7, h => absurd h (by omega)
/-- a method: its code's word, what kind it is, its class -/
def m_cw (y : Nat) : Cond := if m_hw y = [] then .code (m_mn y) (m_by y) (m_ml y) (m_rt y) else .codeWith (m_mn y) (m_by y) (m_ml y) (m_rt y) (m_hw y)
def m_ckM (y : Nat) : Bool := (decide (y = 117) || decide (m_cw y ∈ m_tb)) && (decide ((m_mn y).cls = m_R (m_o y)) && ((decide (y = 117) || (if m_st y then decide (Cond.static (m_mn y) ∈ m_tb) else decide (Cond.instanceMethod (m_mn y) ∈ m_tb) && (m_ini y || decide (Cond.selects (m_R (m_o y)) (m_mn y) (m_mn y) ∈ m_tb)))) &&
  (decide (Cond.initialized (m_R (m_o y)) ∈ m_tb) && (decide ((parseMethodDescriptor (m_mn y).desc).map (fun d => d.parameters.length) = some (m_na y - (if m_st y then 0 else 1))) && (decide (plainName (m_R (m_o y)) = true) && (decide (m_ini y = decide ((m_mn y).name = "<init>")) &&
  (decide (m_na y ≤ m_ml y) && (decide (m_st y = true ∨ 1 ≤ m_na y) && (decide (m_R (m_o y) ≠ "java/lang/invoke/MethodHandle" ∧ m_R (m_o y) ≠ "java/lang/invoke/VarHandle") && decide (m_st y = true ∨ m_o y < 7))))))))))
set_option maxRecDepth 100000 in
theorem m_wM_0 : ([0, 1, 2, 3, 4, 5, 6, 7, 8, 9, 10, 11] : List Nat).all m_ckM = true := by decide +kernel
set_option maxRecDepth 100000 in
theorem m_wM_12 : ([12, 13, 14, 15, 16, 17, 18, 19, 20, 21, 22, 23] : List Nat).all m_ckM = true := by decide +kernel
set_option maxRecDepth 100000 in
theorem m_wM_24 : ([24, 25, 26, 27, 28, 29, 30, 31, 32, 33, 34, 35] : List Nat).all m_ckM = true := by decide +kernel
set_option maxRecDepth 100000 in
theorem m_wM_36 : ([36, 37, 38, 39, 40, 41, 42, 43, 44, 45, 46, 47] : List Nat).all m_ckM = true := by decide +kernel
set_option maxRecDepth 100000 in
theorem m_wM_48 : ([48, 49, 50, 51, 52, 53, 54, 55, 56, 57, 58, 59] : List Nat).all m_ckM = true := by decide +kernel
set_option maxRecDepth 100000 in
theorem m_wM_60 : ([60, 61, 62, 63, 64, 65, 66, 67, 68, 69, 70, 71] : List Nat).all m_ckM = true := by decide +kernel
set_option maxRecDepth 100000 in
theorem m_wM_72 : ([72, 73, 74, 75, 76, 77, 78, 79, 80, 81, 82, 83] : List Nat).all m_ckM = true := by decide +kernel
set_option maxRecDepth 100000 in
theorem m_wM_84 : ([84, 85, 86, 87, 88, 89, 90, 91, 92, 93, 94, 95] : List Nat).all m_ckM = true := by decide +kernel
set_option maxRecDepth 100000 in
theorem m_wM_96 : ([96, 97, 98, 99, 100, 101, 102, 103, 104, 105, 106, 107] : List Nat).all m_ckM = true := by decide +kernel
set_option maxRecDepth 100000 in
theorem m_wM_108 : ([108, 109, 110, 111, 112, 113, 114, 115, 116, 117, 118] : List Nat).all m_ckM = true := by decide +kernel
