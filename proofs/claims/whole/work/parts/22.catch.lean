/-! the search for a handler, its classes resolved or not -/
section MCH
variable {e : Env} {f : JFrame} {a : Addr} {s₀ : State}
theorem m_find1 {s : State} {x : ExceptionTableEntry} {t : List ExceptionTableEntry} {c : ClassId} {cell : Cell} {vm' : Vm} {Q : Handler → Pre} {E : CtlPost} {d : Bool} {acts : List Action} (hx : covers x f.pc = true) (h0 : x.catchType ≠ 0)
    (hg : (resolveClass f.method.cls x.catchType).Gives e.toSetting s.vm (.ok c) vm') (hsz : vm'.classes.size ≤ s.vm.classes.size) (hcell : s.heap[a]? = some cell) (hobj : ∀ k, cell.vm ≠ .statics k)
    (hk : ∃ k, vm'.classes[cell.cls]? = some k) (hc : ∃ k, vm'.classes[c]? = some k) :
    wp (findHandler.go f a (x :: t)) Q E e d acts s ↔ if vm'.assignable cell.cls c = true then Q (.found x.handlerPc) d acts (s.setVm vm') else wp (findHandler.go f a t) Q E e d acts (s.setVm vm') := by
  simp only [covers] at hx
  obtain ⟨ms', hms⟩ := hg []
  have hans : (VmOp.resolveClass f.method.cls x.catchType).answer e s.vm = .ok c := by
    simp [VmOp.answer, VmOp.run, hms]
  have htab : (VmOp.resolveClass f.method.cls x.catchType).tables e s.vm = vm' := by
    simp [VmOp.tables, VmOp.run, hms]
  cases hfit : vm'.assignable cell.cls c <;>
    simp [findHandler.go, hx, h0, W.vmOp_same, hans, htab, hsz, hcell, hobj, hk, hc, hfit, VmOp.dirties, VmOp.acts]
/-- what the search finds: the first row that covers the place and whose class takes the object -/
def m_hit (pc : Nat) (ok : Nat → Bool) : List ExceptionTableEntry → Handler
  | [] => .none
  | x :: t => if covers x pc && ok x.catchType then .found x.handlerPc else m_hit pc ok t
theorem m_search {cell : Cell} {ok : Nat → Bool} : ∀ (tl : List ExceptionTableEntry) (s : State), s₀.WarmedH s.vm → s.heap[a]? = some cell → (∀ k, cell.vm ≠ .statics k) → (∃ k, s₀.vm.classes[cell.cls]? = some k) →
    (∀ x ∈ tl, x.catchType ≠ 0 ∧ ∃ c, s₀.vm.ClassLinks e.platform f.method.cls x.catchType c ∧ (∃ k, s₀.vm.classes[c]? = some k) ∧ s₀.vm.assignable cell.cls c = ok x.catchType) →
    ∃ vm', s₀.WarmedH vm' ∧ ∀ (Q : Handler → Pre) (E : CtlPost) (d : Bool) (acts : List Action), wp (findHandler.go f a tl) Q E e d acts s ↔ Q (m_hit f.pc ok tl) d acts (s.setVm vm') := by
  intro tl
  induction tl with
  | nil => exact fun s hW _ _ _ _ => ⟨s.vm, hW, fun Q E d acts => W.findHandler_go_nil⟩
  | cons x t ih =>
    intro s hW hcell hobj hk hall
    obtain ⟨h0, c, hl, ⟨kc, hkc⟩, hasg⟩ := hall x List.mem_cons_self
    cases hcov : covers x f.pc with
    | false =>
      obtain ⟨vm', w1, w2⟩ := ih s hW hcell hobj hk (fun y hy => hall y (List.mem_cons_of_mem _ hy))
      refine ⟨vm', w1, fun Q E d acts => ?_⟩
      rw [W.findHandler_go_skip hcov, w2]
      simp only [m_hit, hcov, Bool.false_and, Bool.false_eq_true, if_false]
    | true =>
      obtain ⟨hg, hW1, -⟩ := State.classEntry (e := e) hW hl
      generalize s.vm.noted f.method.cls x.catchType (.cls c) = vm1 at hg hW1
      have hal := hW1.alike
      have hal2 : s.vm.Alike vm1 := hW.alike.symm.trans hal
      have hsz : vm1.classes.size ≤ s.vm.classes.size := Nat.le_of_eq (by first | exact hal2.1.symm | exact hal2.1 | exact hal2.2.1 | exact hal2.2.1.symm)
      obtain ⟨k1, hk1⟩ := hk
      obtain ⟨k1', hk1', -⟩ := hal.2.2 _ _ hk1
      obtain ⟨kc', hkc', -⟩ := hal.2.2 _ _ hkc
      have hasg' : vm1.assignable cell.cls c = ok x.catchType := by
        rw [← hasg]
        first | exact hal.assignable _ _ | exact (hal.assignable _ _).symm | simp [hal.assignable]
      cases hok : ok x.catchType with
      | true =>
        refine ⟨vm1, hW1, fun Q E d acts => ?_⟩
        rw [m_find1 hcov h0 hg hsz hcell hobj ⟨_, hk1'⟩ ⟨_, hkc'⟩, hasg', hok]
        simp only [m_hit, hcov, hok, Bool.and_self, if_true]
      | false =>
        obtain ⟨vm', w1, w2⟩ := ih (s.setVm vm1) hW1 hcell hobj ⟨_, hk1⟩ (fun y hy => hall y (List.mem_cons_of_mem _ hy))
        refine ⟨vm', w1, fun Q E d acts => ?_⟩
        rw [m_find1 hcov h0 hg hsz hcell hobj ⟨_, hk1'⟩ ⟨_, hkc'⟩, hasg', hok]
        simp only [Bool.false_eq_true, if_false]
        rw [w2]
        simp only [m_hit, hcov, hok, Bool.and_false, Bool.false_eq_true, if_false]
        rfl
/-- the search as a whole -/
def m_Finds (e : Env) (s : State) (f : JFrame) (a : Addr) (h : Handler) (vm' : Vm) : Prop :=
  ∀ (Q : Handler → Pre) (E : CtlPost) (d : Bool) (acts : List Action), wp (findHandler f a) Q E e d acts s ↔ Q h d acts (s.setVm vm')
theorem m_step_catch {s : State} {r : List Frame} {pc : Nat} {vm' : Vm} (hfind : m_Finds e s f a (.found pc) vm') :
    (stepThrowing e s a (.java f :: r)).Is ((s.setVm vm').setFrames (.java { f with pc := pc, stack := [.ref a] } :: r)) [] := by
  simp only [stepThrowing, searchFrame, vmDo]
  generalize hr : Sem.go _ e false [] s = res
  obtain ⟨as, rfl, ha⟩ := Sem.eq_ok_of hr (a := Handler.found pc) (s' := s.setVm vm') (acts' := []) (by simp [hfind _ _ _ _])
  exact ⟨rfl, ha⟩
theorem m_caught {tb : Tables} {s target : State} {g : JFrame} {c : Code} {below : List Frame} (h : At s g.method c below) {pc : Nat} {vm' : Vm} (hfind : m_Finds e ((s.setTop g).pushFrame (.throwing a)) g a (.found pc) vm')
    (hrest : Steps tb e below ((s.setVm vm').setTop { g with pc := pc, stack := [.ref a] }) target) : Steps tb e below ((s.setTop g).pushFrame (.throwing a)) target := by
  obtain ⟨hgo, hw⟩ := h.throwing a
  refine Steps.head hgo hw ?_
  rw [stepThread_throwing (frames_entered h.top _), (m_step_catch (s := (s.setTop g).pushFrame (.throwing a)) hfind).1]
  obtain ⟨g₀, hg⟩ := Option.isSome_iff_exists.mp h.top
  obtain ⟨r, hr⟩ := State.topJava?_eq_some.mp hg
  have hr' : (s.setVm vm').frames = .java g₀ :: r := hr
  rw [State.setTop_of_frames _ hr'] at hrest
  rw [State.setTop_of_frames _ hr, State.pushFrame]
  have hcur := State.cur_lt_of_frames hr
  rw [State.setFrames_setFrames] 
  have e1 : ((s.setFrames (.throwing a :: (s.setFrames (.java g :: r)).frames)).setVm vm').setFrames (.java { g with pc := pc, stack := [.ref a] } :: r) = (s.setVm vm').setFrames (.java { g with pc := pc, stack := [.ref a] } :: r) := by
    show ((s.setVm vm').setFrames _).setFrames _ = _
    rw [State.setFrames_setFrames]
  have e2 : s.frames.tail = r := by rw [hr]; rfl
  rw [e2]
  rw [e1]
  exact hrest
end MCH
