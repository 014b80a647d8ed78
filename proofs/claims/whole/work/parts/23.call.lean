/-! A CALL -/
theorem m_cw_spec {y : Nat} {args : Array Value} {s : State} {mk : MethodId} (h : (m_cw y).before args s = true) (hn : s.methodNamed? (m_mn y) = some mk) : ∃ meth c, s.vm.method? mk = some meth ∧ meth.code = some c ∧ c.code = m_by y ∧ c.maxLocals = m_ml y ∧ meth.sig.returnType = m_rt y ∧ meth.locks = false ∧
    c.exceptionTable.toList.map (fun h => (h.startPc, h.endPc, h.handlerPc, h.catchType)) = m_hw y ∧ parseMethodDescriptor (m_mn y).desc = some meth.sig := by
  unfold m_cw at h
  split at h
  · rename_i e0
    obtain ⟨meth, c, h1, h2, h3, h4, h5, h6, h7, h8⟩ := Cond.code_spec hn h
    refine ⟨meth, c, h1, h2, h3, h4, h5, h6, ?_, h8⟩
    rw [e0]
    have : c.exceptionTable.toList = [] := by simpa using h7
    rw [this]; rfl
  · obtain ⟨mk', meth, c, hn', h1, h2, h3, h4, h5, h6, h7, h8⟩ := Cond.codeWith_spec h
    cases hn.symm.trans hn'
    exact ⟨meth, c, h1, h2, h3, h4, h6, h7, h5, h8⟩
theorem m_meth {y : Nat} (hy : y < 119) (h7 : y ≠ 117) : m_cw y ∈ m_tb ∧ (m_mn y).cls = m_R (m_o y) ∧ (if m_st y then Cond.static (m_mn y) ∈ m_tb else Cond.instanceMethod (m_mn y) ∈ m_tb ∧ (m_ini y = true ∨ Cond.selects (m_R (m_o y)) (m_mn y) (m_mn y) ∈ m_tb)) ∧ Cond.initialized (m_R (m_o y)) ∈ m_tb ∧
    (parseMethodDescriptor (m_mn y).desc).map (fun d => d.parameters.length) = some (m_na y - (if m_st y then 0 else 1)) ∧ plainName (m_R (m_o y)) = true ∧ m_ini y = decide ((m_mn y).name = "<init>") ∧ m_na y ≤ m_ml y ∧ (m_st y = true ∨ 1 ≤ m_na y) ∧
    (m_R (m_o y) ≠ "java/lang/invoke/MethodHandle" ∧ m_R (m_o y) ≠ "java/lang/invoke/VarHandle") ∧ (m_st y = true ∨ m_o y < 7) := by
  have h := m_wM y hy
  simp only [m_ckM, Bool.and_eq_true, Bool.or_eq_true, decide_eq_true_eq] at h
  obtain ⟨a1, a2, a3, a4, a5, a6, a7, a8, a9, a10, a11⟩ := h
  refine ⟨a1.resolve_left h7, a2, ?_, a4, a5, a6, a7, a8, a9, a10, a11⟩
  have a3 := a3.resolve_left h7
  split
  · rename_i q
    rw [if_pos q] at a3
    exact of_decide_eq_true a3
  · rename_i q
    rw [if_neg q] at a3
    simpa using a3
/-- a callee's contract: from this heap and these arguments it comes to this end -/
def m_MX (l : Launch) (s0 : State) (rom : Nat → Nat) (romC : Nat → mC) (D : va_G) (cA eC : Nat → ClassId) (y : Nat) (As : List Value) (h : mH) (o : mE) (h' : mH) (K N : Nat) : Prop :=
  MetFree l (m_mn y) (headSpec [m_cw y] { frames := m_nf y, cells := K, slots := N, locals := m_nw y })
    (fun args U => args = (As.map (m_cv (m_ad s0.heap.size rom))).toArray ∧ s0.WarmedH U.vm ∧ m_Rel s0 rom romC D cA eC h U.heap) (fun _ _ _ _ _ => True)
    (fun _ U oc t => oc = m_out (m_ad s0.heap.size rom) o ∧ U.WarmedH t.vm ∧ (∃ Lc : List Loc, U.sameButNew ({ t with vm := U.vm } : State) Lc K N ∧ ∀ q ∈ Lc, s0.heap.size ≤ q.base) ∧ m_Rel s0 rom romC D cA eC h' t.heap)
section SIM
variable {p : Program} {l : Launch} {e : Env} {R : Room} {s0 s : State} {m : MethodId} {args : Array Value} {below : List Frame} {meth : Method} {c : Code} {H : Heap} {locs : List Loc} {cells slots : Nat} {Q : State → Prop} {ls : Array Slot}
variable {rom : Nat → Nat} {romC : Nat → mC} {D : va_G} {cA eC : Nat → ClassId} {y pc len tgt pc' y' K N : Nat} {i : Instr} {L L' : mL} {S S' : List Value} {h h' : mH} {o : mE}
set_option maxHeartbeats 4000000 in
theorem m_simC (C : m_Fr p s0 s m args meth c y) (hK : va_K D m_cls (m_at0 cA) s) (hr : m_romOk s0 rom romC) (hR : m_Rel s0 rom romC D cA eC h H) (hl : m_Loc (m_ad s0.heap.size rom) ls (m_ml y) L) (hF : R.frames = m_nf y) (hLo : R.locals = m_nw y)
    (h1 : m_at y pc = some (i, len, tgt)) (hi : m_inv y i = some y') (hmay : m_may y y' S h = true) (hM : m_MX l s0 rom romC D cA eC y' (S.take (m_na y')).reverse h o h' K N) (hC : cells + K ≤ R.cells) (hSl : slots + N ≤ R.slots) (hlo : ∀ q ∈ locs, s0.heap.size ≤ q.base)
    (kr : ∀ v, o = .inl v → ∀ (H' : Heap) (locs' : List Loc), m_Rel s0 rom romC D cA eC h' H' → (∀ q ∈ locs', s0.heap.size ≤ q.base) → W p l e R s m args below meth c H' locs' (cells + K) (slots + N) Q (F0 m (pc + 3) ls ((v.toList ++ S.drop (m_na y')).map (m_cv (m_ad s0.heap.size rom)))))
    (kx : ∀ x, o = .inr x → ∀ (T' : State) (locs' : List Loc) (st : List Value), Stand p l e R s m args below meth c T' locs' (cells + K) (slots + N) → m_Rel s0 rom romC D cA eC h' T'.heap → (∀ q ∈ locs', s0.heap.size ≤ q.base) → ∃ t, Steps p.tables e below ((T'.setTop (F0 m pc ls st)).pushFrame (.throwing (m_ad s0.heap.size rom x))) t ∧ Q t) :
    W p l e R s m args below meth c H locs cells slots Q (F0 m pc ls (S.map (m_cv (m_ad s0.heap.size rom)))) := by
  obtain ⟨hx, hb, hml, hown, hW, hts, hnm, hrt, hlk, hex, hy⟩ := C
  obtain ⟨hdg, -⟩ := m_at_ok hy h1
  simp only [m_may, Bool.and_eq_true, decide_eq_true_eq] at hmay
  obtain ⟨hn1, hn2, hn3, hn4, hn5⟩ := hmay
  have hcl : ∃ ix, m_cl (m_o y) ix = some y' ∧ (i = .invokevirtual ix ∨ i = .invokespecial ix ∨ i = .invokestatic ix) := by
    unfold m_inv at hi
    split at hi
    · exact ⟨_, hi, Or.inl rfl⟩
    · exact ⟨_, hi, Or.inr (Or.inl rfl)⟩
    · exact ⟨_, hi, Or.inr (Or.inr rfl)⟩
    · cases hi
  obtain ⟨ix, hcl, hkind⟩ := hcl
  obtain ⟨hlink, hy', h7'⟩ := m_cl_ok hcl
  obtain ⟨b1, b2, b3, b4, b5, b6, b7, b8, b9, b10, b11⟩ := m_meth hy' h7'
  have e3 : len = 3 := by
    have hck := (m_at_ok hy h1).2
    simp only [m_ck2, Bool.and_eq_true, Bool.or_eq_true, decide_eq_true_eq] at hck
    rcases hkind with rfl | rfl | rfl <;> (have q := hck.1; simp [m_len] at q; exact q.symm)
  subst e3
  -- the common end of all three kinds of call
  have fin : ∀ (T : State) (g : JFrame) (mk : MethodId) (methY : Method) (cY : Code), T.heap = H → Stand p l e R s m args below meth c T locs cells slots → g = F0 m pc ls ((S.drop (m_na y')).map (m_cv (m_ad s0.heap.size rom))) → s.methodNamed? (m_mn y') = some mk → s.vm.method? mk = some methY → methY.code = some cY → cY.maxLocals = m_ml y' →
      ∃ t, Steps p.tables e below (doInvoke e (T.setTop g) [] mk (((S.take (m_na y')).reverse.map (m_cv (m_ad s0.heap.size rom))).toArray)).1 t ∧ Q t := by
    intro T g mk methY cY hT X hg hnamed hmY hcY hlY
    have hal : s.vm.Alike T.vm := X.warmed.alike
    have hmY' : T.vm.method? mk = some methY := by rw [hal.method?]; exact hmY
    have hcwU : ∀ a, (m_cw y').before a T = true := fun a => word_at X.warmed (m_tb_in b1).2 (hts _ b1)
    have hiniU : ∀ a, (Cond.initialized (m_mn y').cls).before a T = true := fun a => by rw [b2]; exact word_at X.warmed (m_tb_in b4).2 (hts _ b4)
    subst hg
    obtain ⟨oc, t, L', k', n', B, q1, q2, q3, q4, q5, q6⟩ := m_back (maxL := m_ml y') (E := fun _ t L k n => k = K ∧ n = N ∧ ∀ q ∈ L, s0.heap.size ≤ q.base) hM X (g := F0 m pc ls ((S.drop (m_na y')).map (m_cv (m_ad s0.heap.size rom)))) rfl (by rw [hml]; exact hl.1.1) (by rw [hb]; exact hdg) (X.named hnamed) hmY' hcY hlY
      (by rw [hF]; exact hn4) (by show 2 * 0 + _ + _ + _ ≤ _; rw [m_cv_words, hLo]; show 2 * 0 + m_words (S.drop (m_na y')) + (m_ml y' + 11) + m_nw y' ≤ m_nw y; omega)
      (atoms_intro (fun w hw => by simp only [List.mem_singleton] at hw; rw [hw]; exact hcwU _)) (hiniU _) hC hSl
      ⟨rfl, State.WarmedH.trans hW (show s.WarmedH T.vm from X.warmed), by show m_Rel s0 rom romC D cA eC h T.heap; rw [hT]; exact hR⟩
      (fun oc t hq => by
        obtain ⟨-, z2, ⟨Lc, z3, z4⟩, z5⟩ := hq
        exact ⟨Lc, K, N, ⟨z2, z3⟩, rfl, rfl, z4⟩)
    obtain ⟨rfl, rfl, hlo'⟩ := q2
    obtain ⟨rfl, -, -, hR'⟩ := q1
    have hlo2 : ∀ q ∈ locs ++ L', s0.heap.size ≤ q.base := fun q hq => (List.mem_append.mp hq).elim (hlo q) (hlo' q)
    cases o with
    | inl v =>
      have hk := kr v rfl B.heap _ (by rw [q3]; exact hR') hlo2
      obtain ⟨t2, u1, u2⟩ := hk B rfl q5
      refine ⟨t2, ?_, u2⟩
      refine Steps.trans q6 ?_
      have : ((v.map (m_cv (m_ad s0.heap.size rom))).toList ++ (S.drop (m_na y')).map (m_cv (m_ad s0.heap.size rom))) = (v.toList ++ S.drop (m_na y')).map (m_cv (m_ad s0.heap.size rom)) := by
        cases v <;> simp
      show Steps _ _ _ (B.setTop (F0 m (pc + 3) ls ((v.map (m_cv (m_ad s0.heap.size rom))).toList ++ (S.drop (m_na y')).map (m_cv (m_ad s0.heap.size rom))))) t2
      rw [this]
      exact u1
    | inr x =>
      obtain ⟨t2, u1, u2⟩ := kx x rfl B _ _ q5 (by rw [q3]; exact hR') hlo2
      exact ⟨t2, Steps.trans q6 u1, u2⟩
  have hcw0 : (m_cw y').before args s = true := hts _ b1
  have hS : S.map (m_cv (m_ad s0.heap.size rom)) = ((S.take (m_na y')).reverse.map (m_cv (m_ad s0.heap.size rom))).reverse ++ (S.drop (m_na y')).map (m_cv (m_ad s0.heap.size rom)) := by
    rw [← List.map_reverse, List.reverse_reverse, ← List.map_append, List.take_append_drop]
  have hlenA : ((S.take (m_na y')).reverse.map (m_cv (m_ad s0.heap.size rom))).length = m_na y' := by simp [Nat.min_eq_left hn1]
  have hy10 : (m_mn y').cls ≠ "java/lang/invoke/MethodHandle" ∧ (m_mn y').cls ≠ "java/lang/invoke/VarHandle" := by rw [b2]; exact b10
  have hpl : ∀ sig, parseMethodDescriptor (m_mn y').desc = some sig → sig.parameters.length = m_na y' - (if m_st y' then 0 else 1) := fun sig hs => by
    rw [hs] at b5; simpa using b5
  rw [hS]
  intro T hT X
  cases hst : m_st y' with
  | true =>
    -- a static method
    rw [hst] at b3 hpl
    simp only [if_true] at b3 hpl
    have hist : i = .invokestatic ix := by
      rcases hkind with q | q | q
      · exact absurd hst (by rw [m_kinds y hy pc i 3 tgt h1 ix y' hcl (Or.inl q)]; decide)
      · exact absurd hst (by rw [m_kinds y hy pc i 3 tgt h1 ix y' hcl (Or.inr q)]; decide)
      · exact q
    subst hist
    obtain ⟨mk, hnamed⟩ := Option.isSome_iff_exists.mp (m_named hcw0)
    obtain ⟨methM, cM, d1, d2, d3, d4, d5, d6, d7, d8⟩ := m_cw_spec hcw0 hnamed
    have hstatic : methM.isStatic = true := Cond.static_spec hnamed d1 (hts _ b3)
    obtain ⟨kP, hkP, -⟩ := className_of_methodNamed hnamed
    have hinitP : kP.init = .initialized := Cond.initialized_spec (findClass_of_methodNamed hnamed) hkP (by rw [b2]; exact hts _ b4)
    obtain ⟨vm₁, X₁, st1⟩ := X.invokestatic hx hown (hts _ hlink) hnamed d1 hstatic hkP hinitP hy10 (g := F0 m pc ls (((S.take (m_na y')).reverse.map (m_cv (m_ad s0.heap.size rom))).reverse ++ (S.drop (m_na y')).map (m_cv (m_ad s0.heap.size rom)))) rfl (argsL := (S.take (m_na y')).reverse.map (m_cv (m_ad s0.heap.size rom))) (rest := (S.drop (m_na y')).map (m_cv (m_ad s0.heap.size rom))) (by rw [hlenA, hpl _ d8]; omega) rfl (by rw [hb]; exact hdg)
    obtain ⟨t, u1, u2⟩ := fin (T.setVm vm₁) _ mk methM cM hT X₁ rfl hnamed d1 d2 d4
    exact ⟨t, st1 _ (fun acts => by rw [doInvoke_state]; exact u1), u2⟩
  | false =>
    rw [hst] at b3 hpl b9 b11
    simp only [Bool.false_eq_true, if_false, false_or] at b3 hpl b9 b11
    -- the receiver
    have hrc : ∃ (a : Nat) (As : List Value), (S.take (m_na y')).reverse = .ref a :: As ∧ ∃ fs, h.1 a = mO (m_o y') fs := by
      unfold m_rcv at hn3
      rw [hst] at hn3
      simp only [Bool.false_or] at hn3
      split at hn3
      · rename_i a As ea
        refine ⟨a, As, ea, ?_⟩
        split at hn3
        · rename_i ci fs ec
          have : ci = m_o y' := beq_iff_eq.mp hn3
          subst this
          exact ⟨fs, ec⟩
        · cases hn3
      · cases hn3
    obtain ⟨a, As, ea, fs, ec⟩ := hrc
    obtain ⟨ha, hb2, hrel⟩ := m_isObj hR hr ec (by omega)
    have hcellB : ∃ cellB : Cell, T.heap[m_ad s0.heap.size rom a]? = some cellB ∧ cellB.vm = .none ∧ s.vm.findClass (m_R (m_o y')) = some cellB.cls := by
      rcases hrel with ⟨r, q1, q2, cell, z1, z2, z3, -⟩ | ⟨q1, -⟩
      · refine ⟨cell, by rw [hT]; exact z1, z3, ?_⟩
        obtain ⟨C0, T0, N0⟩ := r
        obtain ⟨-, -, -, -, -, -, -, -, g9, -⟩ := m_cls_ok q1
        obtain ⟨-, hfc, -⟩ := hK.1 _ _ q1
        rw [g9, z2]; exact hfc
      · omega
    obtain ⟨cellB, z1, z2, z3⟩ := hcellB
    have hobj : ∀ k, cellB.vm ≠ .statics k := fun k q => by rw [z2] at q; cases q
    rw [ea] at hlenA fin ⊢
    rw [List.map_cons] at hlenA fin ⊢
    have hlenAs : (As.map (m_cv (m_ad s0.heap.size rom))).length = m_na y' - 1 := by
      simp only [List.length_cons] at hlenA
      omega
    obtain ⟨mk, methM, hnamed, hmethM, hstM, habM⟩ := Cond.instanceMethod_spec (hts _ b3.1)
    obtain ⟨methM', cM, d1, d2, d3, d4, d5, d6, d7, d8⟩ := m_cw_spec hcw0 hnamed
    cases hmethM.symm.trans d1
    have hcv : m_cv (m_ad s0.heap.size rom) (.ref a) = .ref (m_ad s0.heap.size rom a) := rfl
    rw [hcv] at fin ⊢
    rcases hkind with rfl | rfl | rfl
    · -- invokevirtual
      have hini0 : m_ini y' = false := m_kindV y hy pc 3 tgt ix y' h1 hcl
      have hsel := hts _ (b3.2.resolve_left (by rw [hini0]; decide))
      obtain ⟨c2, r2, m2, w1, w2, w3, w4, kP, hkP, hkPi⟩ := Cond.selects_spec hsel
      cases z3.symm.trans w1
      cases (State.methodFound?_of_named hnamed hy10).symm.trans w2
      cases hnamed.symm.trans w3
      have hselP : selectMethod e.platform s.vm cellB.cls mk = .method mk := by rw [Launch.admits_selectMethod X.admits]; exact w4
      obtain ⟨vm₁, X₁, st1⟩ := X.invokevirtual hx hown (hts _ hlink) hnamed hmethM hstM hkP hkPi hy10 (a := m_ad s0.heap.size rom a) (cell := cellB) z1 hobj hselP hmethM habM hkP hkPi
        (g := F0 m pc ls ((Value.ref (m_ad s0.heap.size rom a) :: As.map (m_cv (m_ad s0.heap.size rom))).reverse ++ (S.drop (m_na y')).map (m_cv (m_ad s0.heap.size rom)))) rfl (argsL := As.map (m_cv (m_ad s0.heap.size rom))) (rest := (S.drop (m_na y')).map (m_cv (m_ad s0.heap.size rom))) (by rw [hlenAs, hpl _ d8]) (by show (_ : List Value).reverse ++ _ = _; rw [List.reverse_cons, List.append_assoc]; rfl) (by rw [hb]; exact hdg)
      obtain ⟨t, u1, u2⟩ := fin (T.setVm vm₁) _ mk methM cM hT X₁ rfl hnamed hmethM d2 d4
      exact ⟨t, st1 _ (fun acts => by rw [doInvoke_state]; exact u1), u2⟩
    · -- invokespecial
      have hini1 : m_ini y' = true ∧ m_rt y' = none ∧ m_hw y' = [] := m_kindS y hy pc 3 tgt ix y' h1 hcl
      have hname : (m_mn y').name = "<init>" := by
        rw [hini1.1] at b7
        exact of_decide_eq_true b7.symm
      have hpl0 : e.platform.magicAccessors = ({} : Platform).magicAccessors := by rw [X.admits.platform]
      have hcode0 : (Cond.code (m_mn y') (m_by y') (m_ml y') none).before args s = true := by
        have := hcw0
        unfold m_cw at this
        rw [if_pos hini1.2.2, hini1.2.1] at this
        exact this
      obtain ⟨mk', methM2, cM2, kP, vm₁, hnamed', hmethM2, hcodeM, -, hlocalsM, -, hkP, -, hW₁, hstep₁⟩ := Steps.initColdArgs (e := e) X.here hx X.warmed hpl0 hown hname hy10 (hts _ hlink) (hts _ b3.1) hcode0
        (f := F0 m pc ls ((Value.ref (m_ad s0.heap.size rom a) :: As.map (m_cv (m_ad s0.heap.size rom))).reverse ++ (S.drop (m_na y')).map (m_cv (m_ad s0.heap.size rom)))) rfl (argsL := As.map (m_cv (m_ad s0.heap.size rom))) (rest := (S.drop (m_na y')).map (m_cv (m_ad s0.heap.size rom))) (fun sig hs => by rw [hlenAs, hpl _ hs]) (by show (_ : List Value).reverse ++ _ = _; rw [List.reverse_cons, List.append_assoc]; rfl) (by rw [hb]; exact hdg)
      cases hnamed.symm.trans hnamed'
      have X₁ := X.noted hW₁
      obtain ⟨t, u1, u2⟩ := fin (T.setVm vm₁) _ mk methM cM hT X₁ rfl hnamed hmethM d2 d4
      exact ⟨t, hstep₁ _ (fun acts => by rw [doInvoke_state]; exact u1), u2⟩
    · -- invokestatic of an instance method: no such
      exact absurd hst (by rw [m_kindT y hy pc 3 tgt ix y' h1 hcl]; decide)
end SIM
