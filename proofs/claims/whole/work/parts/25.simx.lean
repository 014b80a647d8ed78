/-! A THROW COMES BACK TO THE CALLER -/
theorem m_step_leave {e : Env} {s : State} {a : Addr} {f : JFrame} {r : List Frame} {meth : Method} {vm' : Vm} (hal : s.vm.Alike vm')
    (hm : s.vm.method? f.method = some meth) (hl : meth.locks = false) (hlocked : f.locked = none) (hentered : f.entered = []) (hfind : m_Finds e s f a .none vm') :
    (stepThrowing e s a (.java f :: r)).Is ((s.setVm vm').setFrames (.throwing a :: r)) [] := by
  have hm' : vm'.method? f.method = some meth := by rw [hal.method?]; exact hm
  simp only [stepThrowing, searchFrame, vmDo]
  generalize hr : Sem.go _ e false [] s = res
  obtain ⟨as, rfl, ha⟩ := Sem.eq_ok_of hr (a := Handler.none) (s' := s.setVm vm') (acts' := [])
    (by cases hp : e.platform.frameOwnsMonitors <;> simp [hfind _ _ _ _, hm', hl, hlocked, hentered, hp, leaveIfLocked])
  exact ⟨rfl, ha⟩
/-- what the search finds, by the rows of numbers alone -/
def m_hitL (pc : Nat) (ok : Nat → Bool) (l : List (Nat × Nat × Nat × Nat)) : Option Nat := (l.find? (fun r => (Nat.ble r.1 pc && Nat.blt pc r.2.1) && ok r.2.2.2)).map (fun r => r.2.2.1)
theorem m_hit_eq (pc : Nat) (ok : Nat → Bool) : ∀ tl : List ExceptionTableEntry, m_hit pc ok tl = (match m_hitL pc ok (tl.map (fun h => (h.startPc, h.endPc, h.handlerPc, h.catchType))) with | some t => .found t | none => .none)
  | [] => rfl
  | x :: t => by
    have e1 : covers x pc = (Nat.ble x.startPc pc && Nat.blt pc x.endPc) := by
      unfold covers
      rw [Bool.eq_iff_iff]
      simp [Nat.ble_eq, Nat.blt_eq]
    rw [m_hit, m_hit_eq pc ok t]
    unfold m_hitL
    rw [List.map_cons, List.find?_cons]
    rw [e1]
    cases hq : (Nat.ble x.startPc pc && Nat.blt pc x.endPc) && ok x.catchType with
    | true => simp
    | false => simp
def m_hc (t : Nat) : Nat := if t = 13 then 7 else 8
theorem m_hdw : ∀ y, y < 119 → m_hd y = (m_hw y).map (fun r => (r.1, r.2.1, r.2.2.1, m_hc r.2.2.2)) := by decide +kernel
theorem m_hwc : ∀ y, y < 119 → ∀ r ∈ m_hw y, (r.2.2.2 = 13 ∨ r.2.2.2 = 15) ∧ m_o y = 9 := by decide +kernel
theorem m_catch_eq {y pc x ci : Nat} {h : mH} (hy : y < 119) (e : h.1 x = mO ci []) : m_catch y pc h x = m_hitL pc (fun t => Nat.beq (m_hc t) ci) (m_hw y) := by
  unfold m_catch
  rw [e]
  dsimp only
  rw [m_hdw y hy]
  unfold m_hitL
  rw [List.find?_map]
  rw [Option.map_map]
  rfl
set_option maxRecDepth 100000 in
theorem m_cain : ∀ w ∈ [Cond.classLink (m_R 9) 13 (m_R 7), Cond.classLink (m_R 9) 15 (m_R 8)], w ∈ m_tb := by decide +kernel
section SIM
variable {p : Program} {l : Launch} {e : Env} {R : Room} {s0 s : State} {m : MethodId} {args : Array Value} {below : List Frame} {meth : Method} {c : Code} {locs : List Loc} {cells slots : Nat} {ls : Array Slot}
variable {rom : Nat → Nat} {romC : Nat → mC} {D : va_G} {cA eC : Nat → ClassId} {y pc : Nat} {h : mH}
set_option maxHeartbeats 4000000 in
theorem m_simK {x ci : Nat} {T : State} {st : List Value} (C : m_Fr p s0 s m args meth c y) (hr : m_romOk s0 rom romC) (hec : ∀ ci, (ci = 7 ∨ ci = 8) → s.vm.findClass (m_R ci) = some (eC ci)) (has : ∀ ci cj, (ci = 7 ∨ ci = 8) → (cj = 7 ∨ cj = 8) → s.vm.assignable (eC ci) (eC cj) = decide (cj = ci))
    (X : Stand p l e R s m args below meth c T locs cells slots) (hR : m_Rel s0 rom romC D cA eC h T.heap) (hci : ci = 7 ∨ ci = 8) (hx : h.1 x = mO ci []) :
    ∃ vm', s.WarmedH vm' ∧ (∀ t, m_catch y pc h x = some t → ∀ tg, Steps p.tables e below ((T.setVm vm').setTop (F0 m t ls [.ref (m_ad s0.heap.size rom x)])) tg → Steps p.tables e below ((T.setTop (F0 m pc ls st)).pushFrame (.throwing (m_ad s0.heap.size rom x))) tg) ∧
      (m_catch y pc h x = none → Steps p.tables e below ((T.setTop (F0 m pc ls st)).pushFrame (.throwing (m_ad s0.heap.size rom x))) ((T.setVm vm').setFrames (.throwing (m_ad s0.heap.size rom x) :: below))) := by
  obtain ⟨hxe, hb, hml, hown, hW, hts, hnm, hrt, hlk, hex, hy⟩ := C
  obtain ⟨ha, hb2, hrel⟩ := m_isObj hR hr hx (by omega)
  have hcell : ∃ cell : Cell, T.heap[m_ad s0.heap.size rom x]? = some cell ∧ cell.cls = eC ci ∧ cell.vm = .none := by
    rcases hrel with ⟨r, q1, -⟩ | ⟨-, -, cell, z1, z2, z3⟩
    · exfalso
      rcases hci with rfl | rfl <;> simp [m_cls] at q1
    · exact ⟨cell, z1, z2, z3⟩
  obtain ⟨cell, z1, z2, z3⟩ := hcell
  have hpl : e.platform.magicAccessors = ({} : Platform).magicAccessors := by rw [X.admits.platform]
  have hkk : ∀ cj, (cj = 7 ∨ cj = 8) → ∃ k, s.vm.classes[eC cj]? = some k := fun cj hcj => Vm.classAt_of_findClass (hec cj hcj)
  have hU : s.WarmedH ((T.setTop (F0 m pc ls st)).pushFrame (.throwing (m_ad s0.heap.size rom x))).vm := X.warmed
  obtain ⟨vm', w1, w2⟩ := m_search (e := e) (f := F0 m pc ls st) (a := m_ad s0.heap.size rom x) (s₀ := s) (cell := cell) (ok := fun t => Nat.beq (m_hc t) ci) c.exceptionTable.toList ((T.setTop (F0 m pc ls st)).pushFrame (.throwing (m_ad s0.heap.size rom x))) hU z1 (fun k q => by rw [z3] at q; cases q) (by rw [z2]; exact hkk ci hci) (fun r hrr => by
    have hm : (r.startPc, r.endPc, r.handlerPc, r.catchType) ∈ m_hw y := by rw [← hex]; exact List.mem_map.mpr ⟨r, hrr, rfl⟩
    obtain ⟨g1, g2⟩ := m_hwc y hy _ hm
    have hown9 : s.vm.findClass (m_R 9) = some m.cls := by rw [← g2]; exact hown
    rcases g1 with g1 | g1
    · have g1 : r.catchType = 13 := g1
      obtain ⟨c0, hfc0, hcl⟩ := Cond.classLink_spec hown9 (hts _ (m_cain _ (by simp : Cond.classLink (m_R 9) 13 (m_R 7) ∈ _))) e.platform hpl
      have : c0 = eC 7 := Option.some.inj (hfc0.symm.trans (hec 7 (Or.inl rfl)))
      subst this
      rw [g1]
      refine ⟨by decide, eC 7, hcl, hkk 7 (Or.inl rfl), ?_⟩
      rw [z2, has ci 7 hci (Or.inl rfl)]
      rcases hci with rfl | rfl <;> decide
    · have g1 : r.catchType = 15 := g1
      obtain ⟨c0, hfc0, hcl⟩ := Cond.classLink_spec hown9 (hts _ (m_cain _ (by simp : Cond.classLink (m_R 9) 15 (m_R 8) ∈ _))) e.platform hpl
      have : c0 = eC 8 := Option.some.inj (hfc0.symm.trans (hec 8 (Or.inr rfl)))
      subst this
      rw [g1]
      refine ⟨by decide, eC 8, hcl, hkk 8 (Or.inr rfl), ?_⟩
      rw [z2, has ci 8 hci (Or.inr rfl)]
      rcases hci with rfl | rfl <;> decide)
  have hAt : At T m c below := X.here
  have hmeth : T.vm.method? m = some meth := X.method'
  have hmeth2 : ((T.setTop (F0 m pc ls st)).pushFrame (.throwing (m_ad s0.heap.size rom x))).vm.method? m = some meth := hmeth
  have hfind : m_Finds e ((T.setTop (F0 m pc ls st)).pushFrame (.throwing (m_ad s0.heap.size rom x))) (F0 m pc ls st) (m_ad s0.heap.size rom x) (match m_catch y pc h x with | some t => .found t | none => .none) vm' := by
    intro Q E d acts
    rw [W.findHandler_eq (f := F0 m pc ls st) hmeth2 X.code, w2, m_hit_eq, hex, m_catch_eq hy hx]
  refine ⟨vm', w1, fun t ht tg hrest => ?_, fun hn => ?_⟩
  · rw [ht] at hfind
    exact m_caught (g := F0 m pc ls st) hAt hfind hrest
  · rw [hn] at hfind
    obtain ⟨hgo, hw⟩ := At.throwing (g := F0 m pc ls st) hAt (m_ad s0.heap.size rom x)
    refine Steps.head hgo hw ?_
    rw [stepThread_throwing (frames_entered hAt.top _), (m_step_leave (s := (T.setTop (F0 m pc ls st)).pushFrame (.throwing (m_ad s0.heap.size rom x))) (X.warmed.alike.symm.trans w1.alike) (f := F0 m pc ls st) hmeth2 hlk rfl rfl hfind).1]
    obtain ⟨g₀, hg⟩ := Option.isSome_iff_exists.mp hAt.top
    obtain ⟨r, hrr⟩ := State.topJava?_eq_some.mp hg
    have e2 : T.frames.tail = below := X.tail
    have e3 : (((T.setTop (F0 m pc ls st)).pushFrame (.throwing (m_ad s0.heap.size rom x))).setVm vm').setFrames (.throwing (m_ad s0.heap.size rom x) :: T.frames.tail) = (T.setVm vm').setFrames (.throwing (m_ad s0.heap.size rom x) :: below) := by
      rw [e2, State.setTop_of_frames _ hrr, State.pushFrame]
      show ((((T.setFrames _).setFrames _).setVm vm').setFrames _) = _
      show (((T.setVm vm').setFrames _).setFrames _).setFrames _ = _
      rw [State.setFrames_setFrames, State.setFrames_setFrames]
    rw [e3]
    exact Steps.refl _
end SIM
