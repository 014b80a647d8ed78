/-! ONE STEP OF THE MACHINE IS ONE OF THE JVM'S -/
def m_asc (ad : Nat → Nat) (L : mL) : List (Nat × Value) := (List.range L.length).filterMap (fun i => (m_ld L i).map (fun v => (i, m_cv ad v)))
/-- the locals -/
def m_Loc (ad : Nat → Nat) (ls : Array Slot) (nL : Nat) (L : mL) : Prop := lv_has ls nL (m_asc ad L) ∧ (∀ v, some v ∈ L → v.category = 1) ∧ L.length = nL
theorem m_asc_mem {ad : Nat → Nat} {L : mL} {i : Nat} {w : Value} : (i, w) ∈ m_asc ad L ↔ i < L.length ∧ ∃ v, m_ld L i = some v ∧ w = m_cv ad v := by
  unfold m_asc
  rw [List.mem_filterMap]
  constructor
  · rintro ⟨j, hj, e⟩
    cases q : m_ld L j with
    | none => rw [q] at e; simp at e
    | some v =>
      rw [q] at e
      simp only [Option.map_some, Option.some.injEq, Prod.mk.injEq] at e
      obtain ⟨rfl, rfl⟩ := e
      exact ⟨List.mem_range.mp hj, v, q, rfl⟩
  · rintro ⟨h1, v, h2, rfl⟩
    exact ⟨i, List.mem_range.mpr h1, by rw [h2]; rfl⟩
theorem m_ld_some {L : mL} {k : Nat} {v : Value} (h : m_ld L k = some v) : k < L.length ∧ some v ∈ L := by
  unfold m_ld at h
  rcases Nat.lt_or_ge k L.length with q | q
  · refine ⟨q, ?_⟩
    rw [List.getD_eq_getElem?_getD, List.getElem?_eq_getElem q, Option.getD_some] at h
    rw [← h]
    exact List.getElem_mem q
  · rw [List.getD_eq_getElem?_getD, List.getElem?_eq_none q] at h
    simp at h
theorem m_Loc.ld {ad : Nat → Nat} {ls : Array Slot} {nL k : Nat} {L : mL} {v : Value} (H : m_Loc ad ls nL L) (h : m_ld L k = some v) : ls[k]? = some (.val (m_cv ad v)) :=
  H.1.2.2 (k, m_cv ad v) (m_asc_mem.mpr ⟨(m_ld_some h).1, v, h, rfl⟩)
theorem m_Loc.st {ad : Nat → Nat} {ls ls' : Array Slot} {nL k : Nat} {L : mL} {v : Value} (H : m_Loc ad ls nL L) (hv : v.category = 1)
    (h : lv_has ls' nL ((k, m_cv ad v) :: (m_asc ad L).filter (fun q => !(q.1 == k) && !(q.1 + 1 == k && q.2.category == 2)))) : m_Loc ad ls' nL (L.set k (some v)) := by
  refine ⟨⟨h.1, h.2.1, fun q hq => ?_⟩, fun w hw => ?_, by rw [List.length_set]; exact H.2.2⟩
  · obtain ⟨i, w⟩ := q
    obtain ⟨h1, u, h2, rfl⟩ := m_asc_mem.mp hq
    refine h.2.2 (i, m_cv ad u) ?_
    rw [List.length_set] at h1
    unfold m_ld at h2
    rw [List.getD_eq_getElem?_getD, List.getElem?_set] at h2
    by_cases e : k = i
    · subst e
      rw [if_pos rfl, if_pos h1] at h2
      simp only [Option.getD_some, Option.some.injEq] at h2
      rw [h2]
      exact List.mem_cons_self
    · rw [if_neg e, ← List.getD_eq_getElem?_getD] at h2
      have h3 : m_ld L i = some u := h2
      refine List.mem_cons_of_mem _ (List.mem_filter.mpr ⟨m_asc_mem.mpr ⟨h1, u, h3, rfl⟩, ?_⟩)
      have hc : (m_cv ad u).category = 1 := by rw [m_cv_cat]; exact H.2.1 u (m_ld_some h3).2
      simp [hc, Ne.symm e]
  · rcases List.mem_or_eq_of_mem_set hw with q | q
    · exact H.2.1 w q
    · cases q; exact hv
/-- what holds of an invocation of the method y whose state at its entry is s -/
def m_Fr (p : Program) (s0 s : State) (m : MethodId) (args : Array Value) (meth : Method) (c : Code) (y : Nat) : Prop :=
  p.tables.exec = Jvm.exec ∧ c.code = m_by y ∧ c.maxLocals = m_ml y ∧ s.vm.findClass (m_R (m_o y)) = some m.cls ∧ s0.WarmedH s.vm ∧ (∀ w ∈ m_tb, w.before args s = true) ∧ meth.name = (m_mn y).name ∧ meth.sig.returnType = m_rt y ∧ meth.locks = false ∧
    c.exceptionTable.toList.map (fun h => (h.startPc, h.endPc, h.handlerPc, h.catchType)) = m_hw y ∧ y < 119
/-- the instructions that ask more of the world: statics -/
def m_spec (i : Instr) : Bool := match i with
  | .getstatic _ => true
  | _ => false
