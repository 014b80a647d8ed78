/-! what was there before, moved to a later state -/
theorem m_laysStatic_moved {C n d : String} {args args' : Array Value} {s0 s : State} (hal : s0.vm.Alike s.vm) (ho : ∀ q, q < s0.heap.size → s.heap[q]? = s0.heap[q]?) (h : (Cond.laysStatic C n d).before args s0 = true) : (Cond.laysStatic C n d).before args' s = true := by
  obtain ⟨c, k, i, fd, a, cell, hc, hf, hst, hsta, hcell, hiss, hcls, hlt, hty⟩ := Cond.laysStatic_spec h
  obtain ⟨k', hf', he⟩ := State.fieldFound?_setVm hal hf
  have hf2 : s.fieldFound? C n d = some (c, k', i, fd) := hf'
  have hc2 : s.vm.findClass C = some c := by rw [hal.findClass]; exact hc
  have e1 : k'.statics = k.statics := by rw [he]
  have e2 : k'.staticTypes = k.staticTypes := by rw [he]
  have hcell2 : s.heap[a]? = some cell := by rw [ho a (Array.getElem?_eq_some_iff.mp hcell).1]; exact hcell
  simp only [Cond.before, Cond.holds, Cond.value, hc2, hf2, e1, hsta, Option.bind_some, hcell2, Option.map_some, hst, hiss, hcls, e2, hty]
  simp [hlt]
theorem m_static_moved {C n d : String} {args args' : Array Value} {s0 s : State} {v : Value} (hal : s0.vm.Alike s.vm) (ho : ∀ q, q < s0.heap.size → s.heap[q]? = s0.heap[q]?) (hl : (Cond.laysStatic C n d).before args s0 = true) (h : (Term.static C n d).eval args s0 none [] s0 = some v) : (Term.static C n d).eval args' s none [] s = some v := by
  obtain ⟨c, k, i, fd, a, cell, hc, hf, hst, hsta, hcell, hiss, hcls, hlt, hty⟩ := Cond.laysStatic_spec hl
  obtain ⟨k', hf', he⟩ := State.fieldFound?_setVm hal hf
  have hf2 : s.fieldFound? C n d = some (c, k', i, fd) := hf'
  have e1 : k'.statics = k.statics := by rw [he]
  have hcell2 : s.heap[a]? = some cell := by rw [ho a (Array.getElem?_eq_some_iff.mp hcell).1]; exact hcell
  have hv : cell.slots[fd.slot]? = some v := by
    simpa [Term.eval, State.fieldNamed?, hf, hst, hsta, hcell, hiss] using h
  simp [Term.eval, State.fieldNamed?, hf2, hst, e1, hsta, hcell2, hiss, hv]
section SIM
variable {p : Program} {l : Launch} {e : Env} {R : Room} {s0 s : State} {m : MethodId} {args : Array Value} {below : List Frame} {meth : Method} {c : Code} {H : Heap} {locs : List Loc} {cells slots : Nat} {Q : State → Prop} {ls : Array Slot}
variable {rom : Nat → Nat} {romC : Nat → mC} {D : va_G} {cA eC : Nat → ClassId} {y pc len tgt pc' : Nat} {i : Instr} {L L' : mL} {S S' : List Value} {h h' : mH}
/-- the two static arrays: the names -/
def m_gn (j : Nat) : String := if j = 0 then "STEP_X" else "STEP_Y"
theorem m_gs_ok {o ix j : Nat} (h : m_gs o ix = some j) : o = 4 ∧ ((ix = 59 ∧ j = 0) ∨ (ix = 62 ∧ j = 1)) := by
  have hm := m_lookup_mem h
  match o, hm with
  | 0, hm => simp [m_gss] at hm
  | 1, hm => simp [m_gss] at hm
  | 2, hm => simp [m_gss] at hm
  | 3, hm => simp [m_gss] at hm
  | 4, hm => refine ⟨rfl, ?_⟩; simp [m_gss] at hm; omega
  | 5, hm => simp [m_gss] at hm
  | 6, hm => simp [m_gss] at hm
  | 7, hm => simp [m_gss] at hm
  | 8, hm => simp [m_gss] at hm
  | 9, hm => simp [m_gss] at hm
  | 10, hm => simp [m_gss] at hm
  | n + 11, hm => simp [m_gss] at hm
/-- what is known of the statics at the law's entry, for whatever later state -/
def m_Gs (s0 : State) (rom : Nat → Nat) : Prop := ∀ j, j < 2 → va_Z "EscapeCells" (m_gn j) "[I" (.ref (rom j)) (fun q => s0.heap.size ≤ q) s0 s0.heap
theorem m_simG {ix : Nat} (C : m_Fr p s0 s m args meth c y) (hG : m_Gs s0 rom) (hw : ∀ q ∈ [(59, "STEP_X"), (62, "STEP_Y")], (Cond.fieldLinkNest "EscapeCells$Storey" q.1 "EscapeCells" q.2 "[I" "EscapeCells").before args s = true) (hR : m_Rel s0 rom romC D cA eC h H)
    (h1 : m_at y pc = some (.getstatic ix, len, tgt)) (h2 : m_step y pc (.getstatic ix) len tgt L S h = some (pc', L', S', h'))
    (k : W p l e R s m args below meth c H locs cells slots Q (F0 m pc' ls (S'.map (m_cv (m_ad s0.heap.size rom))))) :
    W p l e R s m args below meth c H locs cells slots Q (F0 m pc ls (S.map (m_cv (m_ad s0.heap.size rom)))) ∧ h' = h ∧ L' = L := by
  obtain ⟨hx, hb, hml, hown, hW, hts, hnm, hrt, hlk, hex, hy⟩ := C
  obtain ⟨hdg, hck⟩ := m_at_ok hy h1
  simp only [m_ck2, Bool.and_eq_true, Bool.or_eq_true, decide_eq_true_eq] at hck
  obtain ⟨hlen, -, -⟩ := hck
  simp only [m_step] at h2
  split at h2
  · rename_i j ej
    simp only [Option.some.injEq, Prod.mk.injEq] at h2
    obtain ⟨rfl, rfl, rfl, rfl⟩ := h2
    refine ⟨?_, rfl, rfl⟩
    have e0 : len = 3 := by simp [m_len] at hlen; exact hlen.symm
    subst e0
    obtain ⟨ho, hj⟩ := m_gs_ok ej
    rw [ho] at hown
    have hj2 : j < 2 := by omega
    obtain ⟨cf, kf, fi, f, a, cell, z1, z2, z3, z4, z5, z6, z7, z8⟩ := va_Z.moved hW.alike (hG j hj2)
    have hca : H[a]? = some cell := by rw [hR.2.2.2.2.2 a (Nat.not_le.mp z8)]; exact z5
    have hlk2 : (Cond.fieldLinkNest "EscapeCells$Storey" ix "EscapeCells" (m_gn j) "[I" "EscapeCells").before args s = true := by
      rcases hj with ⟨rfl, rfl⟩ | ⟨rfl, rfl⟩
      · exact hw (59, "STEP_X") (by simp)
      · exact hw (62, "STEP_Y") (by simp)
    refine va_WgetsN hx hb (own := "EscapeCells$Storey") hown hlk2 z1 z2 z3 z4 hca (fun e => by rw [e] at z6; cases z6) z7 rfl hdg ?_
    have e9 : Value.ref (rom j) :: S.map (m_cv (m_ad s0.heap.size rom)) = (Value.ref (m_sB + j) :: S).map (m_cv (m_ad s0.heap.size rom)) := by
      rw [List.map_cons]
      show _ = Value.ref (m_ad _ _ _) :: _
      rw [m_ad_rom]
    show W p l e R s m args below meth c H locs cells slots Q (F0 m (pc + 3) ls (Value.ref (rom j) :: S.map (m_cv (m_ad s0.heap.size rom))))
    rw [e9]
    exact k
  · cases h2
end SIM
