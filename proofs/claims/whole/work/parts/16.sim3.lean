theorem m_lookup_mem {β : Type} {l : List (Nat × β)} {k : Nat} {v : β} (h : l.lookup k = some v) : (k, v) ∈ l := by
  induction l with
  | nil => simp at h
  | cons a t ih =>
    obtain ⟨j, w⟩ := a
    rw [List.lookup_cons] at h
    split at h
    · rename_i hk
      have := beq_iff_eq.mp hk
      cases h
      rw [this]
      exact List.mem_cons_self
    · exact List.mem_cons_of_mem _ (ih h)
theorem m_fl_ok {o ix ci k : Nat} (h : m_fl o ix = some (ci, k)) : ∃ (C : String) (T : u_T) (N : Nat), m_cls[ci]? = some (C, T, N) ∧ Cond.fieldLink (m_R o) ix C (T k).2.1 (T k).2.2.1 ∈ m_tb ∧ k < N ∧ (T k).1 = C ∧ (T k).2.2.2 = m_fin ci k ∧ m_R ci = C := by
  have h1 := List.all_eq_true.mp (m_wF o) _ (m_lookup_mem h)
  unfold m_ckF at h1
  split at h1
  · rename_i r hr
    obtain ⟨C, T, N⟩ := r
    simp only [Bool.and_eq_true, decide_eq_true_eq] at h1
    exact ⟨C, T, N, hr, h1.1, h1.2.1, h1.2.2.1, h1.2.2.2.1, h1.2.2.2.2⟩
  · cases h1
theorem m_cls_ok {ci : Nat} {C : String} {T : u_T} {N : Nat} (h : m_cls[ci]? = some (C, T, N)) : (∀ w ∈ u_ws C T N, w ∈ m_tb) ∧ (∀ k, k < N → parseFieldDescriptor (T k).2.2.1 = some (m_ty ci k)) ∧ (∀ a, a < N → ∀ b, b < N → a ≠ b → (T a).2.1 ≠ (T b).2.1) ∧
    Cond.instantiable C N ∈ m_tb ∧ Cond.initialized C ∈ m_tb ∧ N = m_sz ci ∧ (m_df ci).length = N ∧ (∀ k, k < N → defaultValue (m_ty ci k) = (m_df ci).getD k .null) ∧ m_R ci = C ∧ ci < 7 := by
  have hci : ci < 7 := by
    rcases Nat.lt_or_ge ci 7 with q | q
    · exact q
    · have : m_cls[ci]? = none := List.getElem?_eq_none q
      rw [this] at h; cases h
  have h1 := m_wC ci hci
  unfold m_ckC at h1
  rw [h] at h1
  simp only [Bool.and_eq_true, decide_eq_true_eq, List.all_eq_true, List.mem_range, Bool.or_eq_true, Bool.not_eq_true', decide_eq_false_iff_not] at h1
  obtain ⟨a1, a2, a3, a4, a5, a6, a7, a8, a9⟩ := h1
  exact ⟨a1, a2, fun a ha b hb hne => (a3 a ha b hb).resolve_left hne, a4, a5, a6, a7, a8, a9, hci⟩
theorem m_ne_ok {o ix ci : Nat} (h : m_ne o ix = some ci) : Cond.classLink (m_R o) ix (m_R ci) ∈ m_tb ∧ ci < 9 := by
  have h1 := m_wA o
  unfold m_ckA at h1
  simp only [Bool.and_eq_true, List.all_eq_true] at h1
  have h2 := h1.2.2.1 _ (m_lookup_mem h)
  simpa [m_ckN] using h2
theorem m_pr_ok {o ix k : Nat} (h : m_pr o ix = some k) : m_ckP o (ix, k) = true := by
  have h1 := m_wA o
  unfold m_ckA at h1
  simp only [Bool.and_eq_true, List.all_eq_true] at h1
  exact h1.2.1 _ (m_lookup_mem h)
theorem m_lc_ok {o ix : Nat} {v : Value} (h : m_lc o ix = some v) : m_ckI o (ix, v) = true := by
  have h1 := m_wA o
  unfold m_ckA at h1
  simp only [Bool.and_eq_true, List.all_eq_true] at h1
  exact h1.2.2.2 _ (m_lookup_mem h)
theorem m_cl_ok {o ix y' : Nat} (h : m_cl o ix = some y') : Cond.methodLink (m_R o) ix (m_mn y') ∈ m_tb ∧ y' < 119 ∧ y' ≠ 117 := by
  have h1 := m_wA o
  unfold m_ckA at h1
  simp only [Bool.and_eq_true, List.all_eq_true] at h1
  have h2 := h1.1 _ (m_lookup_mem h)
  simp only [m_ckL, Bool.and_eq_true, Bool.or_eq_true, decide_eq_true_eq] at h2
  exact ⟨h2.1, by omega, by omega⟩
theorem m_one_in : ∀ w ∈ [Cond.instanceMethod Lib.objectInit, Cond.code Lib.objectInit ⟨#[0xb1]⟩ 1 none, Cond.static Lib.Math.max.name, Cond.initialized "java/lang/Math", Cond.code Lib.Math.max.name Lib.Math.max.code 2 (some .int), Cond.static Lib.Math.min.name, Cond.code Lib.Math.min.name Lib.Math.min.code 2 (some .int), Cond.native arraycopyName, Cond.static arraycopyName, Cond.initialized "java/lang/System", Cond.arrayClass .int, Cond.arrayClass .boolean, Cond.arrayClass .long], w ∈ m_tb := fun w hw => of_decide_eq_true (List.all_eq_true.mp m_w1 w hw)
section SIM
variable {p : Program} {l : Launch} {e : Env} {R : Room} {s0 s : State} {m : MethodId} {args : Array Value} {below : List Frame} {meth : Method} {c : Code} {H : Heap} {locs : List Loc} {cells slots : Nat} {Q : State → Prop} {ls : Array Slot}
variable {rom : Nat → Nat} {romC : Nat → mC} {D : va_G} {cA eC : Nat → ClassId} {y pc len tgt pc' : Nat} {i : Instr} {L L' : mL} {S S' : List Value} {h h' : mH}
set_option maxHeartbeats 4000000 in
theorem m_simS (C : m_Fr p s0 s m args meth c y) (hK : va_K D m_cls (m_at0 cA) s) (hr : m_romOk s0 rom romC) (hR : m_Rel s0 rom romC D cA eC h H) (hl : m_Loc (m_ad s0.heap.size rom) ls (m_ml y) L) (hF : R.frames = m_nf y) (hLo : R.locals = m_nw y)
    (h1 : m_at y pc = some (i, len, tgt)) (hsp : m_spec i = false) (h2 : m_step y pc i len tgt L S h = some (pc', L', S', h')) (hC : cells + h'.2.1 ≤ R.cells + h.2.1) (hSl : slots + h'.2.2 ≤ R.slots + h.2.2) (hB : h'.2.1 ≤ 2000000) (hlo : ∀ q ∈ locs, s0.heap.size ≤ q.base)
    (k : ∀ (H' : Heap) (locs' : List Loc) (ls' : Array Slot) (cells' slots' : Nat), m_Rel s0 rom romC D cA eC h' H' → m_Loc (m_ad s0.heap.size rom) ls' (m_ml y) L' → (∀ q ∈ locs', s0.heap.size ≤ q.base) → cells' + h.2.1 = cells + h'.2.1 → slots' + h.2.2 = slots + h'.2.2 →
      W p l e R s m args below meth c H' locs' cells' slots' Q (F0 m pc' ls' (S'.map (m_cv (m_ad s0.heap.size rom))))) :
    W p l e R s m args below meth c H locs cells slots Q (F0 m pc ls (S.map (m_cv (m_ad s0.heap.size rom)))) := by
  obtain ⟨hx, hb, hml, hown, hW, hts, hnm, hrt, hlk, hex, hy⟩ := C
  obtain ⟨hdg, hck⟩ := m_at_ok hy h1
  simp only [m_ck2, Bool.and_eq_true, Bool.or_eq_true, decide_eq_true_eq] at hck
  obtain ⟨hlen, htg, hst⟩ := hck
  cases i
  all_goals first | (simp only [m_step, reduceCtorEq] at h2; done) | skip
  case iconst v =>
    simp only [m_step, Option.some.injEq, Prod.mk.injEq] at h2
    obtain ⟨rfl, rfl, rfl, rfl⟩ := h2
    have e1 : len = 1 := by simp [m_len] at hlen; exact hlen.symm
    subst e1
    exact lv_iconst hx hb hdg rfl (k H locs ls _ _ hR hl hlo rfl rfl)
  case bipush v =>
    simp only [m_step, Option.some.injEq, Prod.mk.injEq] at h2
    obtain ⟨rfl, rfl, rfl, rfl⟩ := h2
    have e1 : len = 2 := by simp [m_len] at hlen; exact hlen.symm
    subst e1
    exact lv_bipush hx hb hdg rfl (k H locs ls _ _ hR hl hlo rfl rfl)
  case sipush v =>
    simp only [m_step, Option.some.injEq, Prod.mk.injEq] at h2
    obtain ⟨rfl, rfl, rfl, rfl⟩ := h2
    have e1 : len = 3 := by simp [m_len] at hlen; exact hlen.symm
    subst e1
    exact lv_sipush hx hb hdg rfl (k H locs ls _ _ hR hl hlo rfl rfl)
  case lconst v =>
    simp only [m_step, Option.some.injEq, Prod.mk.injEq] at h2
    obtain ⟨rfl, rfl, rfl, rfl⟩ := h2
    have e1 : len = 1 := by simp [m_len] at hlen; exact hlen.symm
    subst e1
    exact lv_lconst hx hb hdg rfl (k H locs ls _ _ hR hl hlo rfl rfl)
  case ldc ix =>
    simp only [m_step] at h2
    split at h2
    · rename_i v hv
      simp only [Option.some.injEq, Prod.mk.injEq] at h2
      obtain ⟨rfl, rfl, rfl, rfl⟩ := h2
      have e1 : len = 2 := by simp [m_len] at hlen; exact hlen.symm
      subst e1
      have h3 := m_lc_ok hv
      simp only [m_ckI, decide_eq_true_eq] at h3
      exact lv_ldc hx hb hown (hts _ h3) hdg (k H locs ls _ _ hR hl hlo rfl rfl)
    · cases h2
  case iload_n kx =>
    simp only [m_step] at h2
    split at h2
    · rename_i x hv
      simp only [Option.some.injEq, Prod.mk.injEq] at h2
      obtain ⟨rfl, rfl, rfl, rfl⟩ := h2
      have e1 : len = 1 := by simp [m_len] at hlen; exact hlen.symm
      subst e1
      exact lv_iload_n hx hb hdg rfl (hl.ld hv) (k H locs ls _ _ hR hl hlo rfl rfl)
    · cases h2
  case iload kx =>
    simp only [m_step] at h2
    split at h2
    · rename_i x hv
      simp only [Option.some.injEq, Prod.mk.injEq] at h2
      obtain ⟨rfl, rfl, rfl, rfl⟩ := h2
      have e1 : len = 2 := by simp [m_len] at hlen; exact hlen.symm
      subst e1
      exact lv_iload hx hb hdg (hl.ld hv) (k H locs ls _ _ hR hl hlo rfl rfl)
    · cases h2
  case aload_n kx =>
    simp only [m_step] at h2
    split at h2
    · rename_i x hv
      simp only [Option.some.injEq, Prod.mk.injEq] at h2
      obtain ⟨rfl, rfl, rfl, rfl⟩ := h2
      have e1 : len = 1 := by simp [m_len] at hlen; exact hlen.symm
      subst e1
      exact lv_aload_n hx hb hdg rfl (hl.ld hv) (k H locs ls _ _ hR hl hlo rfl rfl)
    · cases h2
  case aload kx =>
    simp only [m_step] at h2
    split at h2
    · rename_i x hv
      simp only [Option.some.injEq, Prod.mk.injEq] at h2
      obtain ⟨rfl, rfl, rfl, rfl⟩ := h2
      have e1 : len = 2 := by simp [m_len] at hlen; exact hlen.symm
      subst e1
      exact lv_aload hx hb hdg (hl.ld hv) (k H locs ls _ _ hR hl hlo rfl rfl)
    · cases h2
  case istore_n kx =>
    simp only [m_step] at h2
    split at h2
    · rename_i x S1
      simp only [Option.some.injEq, Prod.mk.injEq] at h2
      obtain ⟨rfl, rfl, rfl, rfl⟩ := h2
      have e1 : len = 1 := by simp [m_len] at hlen; exact hlen.symm
      subst e1
      have hlt : (kx : Nat) < m_ml y := by simpa using hst
      exact lv_istore_n hx hb hdg rfl hl.1 hlt rfl (fun ls' hl' => k H locs ls' _ _ hR (hl.st rfl hl') hlo rfl rfl)
    · cases h2
  case istore kx =>
    simp only [m_step] at h2
    split at h2
    · rename_i x S1
      simp only [Option.some.injEq, Prod.mk.injEq] at h2
      obtain ⟨rfl, rfl, rfl, rfl⟩ := h2
      have e1 : len = 2 := by simp [m_len] at hlen; exact hlen.symm
      subst e1
      have hlt : (kx : Nat) < m_ml y := by simpa using hst
      exact lv_istore hx hb hdg hl.1 hlt rfl (fun ls' hl' => k H locs ls' _ _ hR (hl.st rfl hl') hlo rfl rfl)
    · cases h2
  case astore_n kx =>
    simp only [m_step] at h2
    split at h2
    · rename_i x S1
      simp only [Option.some.injEq, Prod.mk.injEq] at h2
      obtain ⟨rfl, rfl, rfl, rfl⟩ := h2
      have e1 : len = 1 := by simp [m_len] at hlen; exact hlen.symm
      subst e1
      have hlt : (kx : Nat) < m_ml y := by simpa using hst
      exact lv_astore_n hx hb hdg rfl hl.1 hlt rfl (fun ls' hl' => k H locs ls' _ _ hR (hl.st rfl hl') hlo rfl rfl)
    · cases h2
  case astore kx =>
    simp only [m_step] at h2
    split at h2
    · rename_i x S1
      simp only [Option.some.injEq, Prod.mk.injEq] at h2
      obtain ⟨rfl, rfl, rfl, rfl⟩ := h2
      have e1 : len = 2 := by simp [m_len] at hlen; exact hlen.symm
      subst e1
      have hlt : (kx : Nat) < m_ml y := by simpa using hst
      exact lv_astore hx hb hdg hl.1 hlt rfl (fun ls' hl' => k H locs ls' _ _ hR (hl.st rfl hl') hlo rfl rfl)
    · cases h2
  case iadd =>
    simp only [m_step] at h2
    split at h2
    · simp only [Option.some.injEq, Prod.mk.injEq] at h2
      obtain ⟨rfl, rfl, rfl, rfl⟩ := h2
      have e1 : len = 1 := by simp [m_len] at hlen; exact hlen.symm
      subst e1
      exact lv_iadd hx hb hdg (k H locs ls _ _ hR hl hlo rfl rfl)
    · cases h2
  case isub =>
    simp only [m_step] at h2
    split at h2
    · simp only [Option.some.injEq, Prod.mk.injEq] at h2
      obtain ⟨rfl, rfl, rfl, rfl⟩ := h2
      have e1 : len = 1 := by simp [m_len] at hlen; exact hlen.symm
      subst e1
      exact lv_isub hx hb hdg (k H locs ls _ _ hR hl hlo rfl rfl)
    · cases h2
  case imul =>
    simp only [m_step] at h2
    split at h2
    · simp only [Option.some.injEq, Prod.mk.injEq] at h2
      obtain ⟨rfl, rfl, rfl, rfl⟩ := h2
      have e1 : len = 1 := by simp [m_len] at hlen; exact hlen.symm
      subst e1
      exact lv_imul hx hb hdg (k H locs ls _ _ hR hl hlo rfl rfl)
    · cases h2
  case iand =>
    simp only [m_step] at h2
    split at h2
    · simp only [Option.some.injEq, Prod.mk.injEq] at h2
      obtain ⟨rfl, rfl, rfl, rfl⟩ := h2
      have e1 : len = 1 := by simp [m_len] at hlen; exact hlen.symm
      subst e1
      exact lv_iand hx hb hdg (k H locs ls _ _ hR hl hlo rfl rfl)
    · cases h2
  case ior =>
    simp only [m_step] at h2
    split at h2
    · simp only [Option.some.injEq, Prod.mk.injEq] at h2
      obtain ⟨rfl, rfl, rfl, rfl⟩ := h2
      have e1 : len = 1 := by simp [m_len] at hlen; exact hlen.symm
      subst e1
      exact lv_ior hx hb hdg (k H locs ls _ _ hR hl hlo rfl rfl)
    · cases h2
  case ixor =>
    simp only [m_step] at h2
    split at h2
    · simp only [Option.some.injEq, Prod.mk.injEq] at h2
      obtain ⟨rfl, rfl, rfl, rfl⟩ := h2
      have e1 : len = 1 := by simp [m_len] at hlen; exact hlen.symm
      subst e1
      exact lv_ixor hx hb hdg (k H locs ls _ _ hR hl hlo rfl rfl)
    · cases h2
  case ishl =>
    simp only [m_step] at h2
    split at h2
    · simp only [Option.some.injEq, Prod.mk.injEq] at h2
      obtain ⟨rfl, rfl, rfl, rfl⟩ := h2
      have e1 : len = 1 := by simp [m_len] at hlen; exact hlen.symm
      subst e1
      exact lv_ishl hx hb hdg (k H locs ls _ _ hR hl hlo rfl rfl)
    · cases h2
  case lcmp =>
    simp only [m_step] at h2
    split at h2
    · simp only [Option.some.injEq, Prod.mk.injEq] at h2
      obtain ⟨rfl, rfl, rfl, rfl⟩ := h2
      have e1 : len = 1 := by simp [m_len] at hlen; exact hlen.symm
      subst e1
      exact W.lcmp hx hb hdg (k H locs ls _ _ hR hl hlo rfl rfl)
    · cases h2
  case i2l =>
    simp only [m_step] at h2
    split at h2
    · simp only [Option.some.injEq, Prod.mk.injEq] at h2
      obtain ⟨rfl, rfl, rfl, rfl⟩ := h2
      have e1 : len = 1 := by simp [m_len] at hlen; exact hlen.symm
      subst e1
      exact lv_i2l hx hb hdg rfl (k H locs ls _ _ hR hl hlo rfl rfl)
    · cases h2
  case goto off =>
    simp only [m_step, Option.some.injEq, Prod.mk.injEq] at h2
    obtain ⟨rfl, rfl, rfl, rfl⟩ := h2
    have e1 : len = 3 := by simp [m_len] at hlen; exact hlen.symm
    subst e1
    simp only [m_tg, decide_eq_true_eq] at htg
    exact lv_goto hx hb hdg htg (k H locs ls _ _ hR hl hlo rfl rfl)
  case dup =>
    simp only [m_step] at h2
    split at h2
    · simp only [Option.some.injEq, Prod.mk.injEq] at h2
      obtain ⟨rfl, rfl, rfl, rfl⟩ := h2
      have e1 : len = 1 := by simp [m_len] at hlen; exact hlen.symm
      subst e1
      exact lv_dup hx hb hdg rfl (k H locs ls _ _ hR hl hlo rfl rfl)
    · simp only [Option.some.injEq, Prod.mk.injEq] at h2
      obtain ⟨rfl, rfl, rfl, rfl⟩ := h2
      have e1 : len = 1 := by simp [m_len] at hlen; exact hlen.symm
      subst e1
      exact lv_dup hx hb hdg rfl (k H locs ls _ _ hR hl hlo rfl rfl)
    · cases h2
  case pop =>
    simp only [m_step] at h2
    split at h2
    · simp only [Option.some.injEq, Prod.mk.injEq] at h2
      obtain ⟨rfl, rfl, rfl, rfl⟩ := h2
      have e1 : len = 1 := by simp [m_len] at hlen; exact hlen.symm
      subst e1
      exact lv_pop hx hb hdg rfl (k H locs ls _ _ hR hl hlo rfl rfl)
    · simp only [Option.some.injEq, Prod.mk.injEq] at h2
      obtain ⟨rfl, rfl, rfl, rfl⟩ := h2
      have e1 : len = 1 := by simp [m_len] at hlen; exact hlen.symm
      subst e1
      exact lv_pop hx hb hdg rfl (k H locs ls _ _ hR hl hlo rfl rfl)
    · cases h2
  case dup2 =>
    simp only [m_step] at h2
    split at h2
    · simp only [Option.some.injEq, Prod.mk.injEq] at h2
      obtain ⟨rfl, rfl, rfl, rfl⟩ := h2
      have e1 : len = 1 := by simp [m_len] at hlen; exact hlen.symm
      subst e1
      exact lv_dup2_11 hx hb hdg rfl rfl (k H locs ls _ _ hR hl hlo rfl rfl)
    · cases h2
  case iinc kx v =>
    simp only [m_step] at h2
    split at h2
    · rename_i x hv
      simp only [Option.some.injEq, Prod.mk.injEq] at h2
      obtain ⟨rfl, rfl, rfl, rfl⟩ := h2
      have e1 : len = 3 := by simp [m_len] at hlen; exact hlen.symm
      subst e1
      have hm : (kx, Value.int x) ∈ m_asc (m_ad s0.heap.size rom) L := m_asc_mem.mpr ⟨(m_ld_some hv).1, _, hv, rfl⟩
      obtain ⟨j, hj, ej⟩ := List.mem_iff_getElem.mp hm
      have hlt : kx < m_ml y := by rw [← hl.2.2]; exact (m_ld_some hv).1
      exact lv_iinc hx hb hdg hl.1 (k := j) (by rw [List.getElem?_eq_getElem hj, ej]) rfl hlt rfl (fun ls' hl' => k H locs ls' _ _ hR (hl.st (v := .int (x + Int32.ofInt v)) rfl hl') hlo rfl rfl)
    · cases h2
  case getstatic ix => simp [m_spec] at hsp
  case getfield ix =>
    simp only [m_step] at h2
    split at h2
    · rename_i a S1
      split at h2
      · rename_i ci kf cj fs e1 e2
        split at h2
        · rename_i v e3 e4
          simp only [Option.some.injEq, Prod.mk.injEq] at h2
          obtain ⟨rfl, rfl, rfl, rfl⟩ := h2
          have e0 : len = 3 := by simp [m_len] at hlen; exact hlen.symm
          subst e0
          have e5 : ci = cj := beq_iff_eq.mp e3
          subst e5
          obtain ⟨Cn, T, N, f1, f2, f3, f4, f5, f6⟩ := m_fl_ok e1
          obtain ⟨g1, g2, g3, g4, g5, g6, g7, g8, g9, g10⟩ := m_cls_ok f1
          obtain ⟨ha, hb2, hrel⟩ := m_isObj hR hr e2 (by omega)
          rcases hrel with ⟨r, q1, q2, q3⟩ | ⟨q1, -⟩
          · cases f1.symm.trans q1
            exact m_W_get (D := D) (cA := cA) hx hb hown hts g1 hK f1 q3 f3 f4 f2 (v := m_cv (m_ad s0.heap.size rom) v) (by rw [List.getElem?_map, e4]; rfl) hdg (k H locs ls _ _ hR hl hlo rfl rfl)
          · omega
        · cases h2
      · cases h2
    · cases h2
  case putfield ix =>
    simp only [m_step] at h2
    split at h2
    · rename_i v a S1
      split at h2
      · rename_i ci kf cj fs e1 e2
        split at h2
        · rename_i e3
          simp only [Option.some.injEq, Prod.mk.injEq] at h2
          obtain ⟨rfl, rfl, rfl, rfl⟩ := h2
          have e0 : len = 3 := by simp [m_len] at hlen; exact hlen.symm
          subst e0
          simp only [Bool.and_eq_true, decide_eq_true_eq, beq_iff_eq, Bool.or_eq_true, Bool.not_eq_true'] at e3
          obtain ⟨rfl, e4, e5, e6⟩ := e3
          obtain ⟨Cn, T, N, f1, f2, f3, f4, f5, f6⟩ := m_fl_ok e1
          obtain ⟨g1, g2, g3, g4, g5, g6, g7, g8, g9, g10⟩ := m_cls_ok f1
          obtain ⟨ha, hb2, hrel⟩ := m_isObj hR hr e2 (by omega)
          rcases hrel with ⟨r, q1, q2, q3⟩ | ⟨q1, -⟩
          · cases f1.symm.trans q1
            refine m_W_put (D := D) (cA := cA) (ci := ci) hx hb hown hts g1 g2 g3 hK f1 q3 f3 f4 f2 (v := m_cv (m_ad s0.heap.size rom) v) (by rw [List.length_map]; exact e5) (m_fit_cv _ e4) ?_ hdg (fun H1 j t1 t2 t3 => ?_)
            · rcases e6 with q | ⟨q, q'⟩
              · exact Or.inl (f5.trans q)
              · refine Or.inr ⟨?_, ?_⟩
                · rw [hnm]
                  have hq := m_wM y hy
                  simp only [m_ckM, Bool.and_eq_true, decide_eq_true_eq] at hq
                  have h7 := hq.2.2.2.2.2.2.1
                  rw [q] at h7
                  exact of_decide_eq_true h7.symm
                · rw [← f6, q']
            · rw [← List.map_set] at t1
              refine k H1 _ ls _ _ (m_rel_set hR ha (Or.inl ⟨_, f1, by rw [List.length_set]; exact q2, ?_⟩) t2 ?_) hl ?_ rfl rfl
              · rw [m_ad_lt hb2] at t1; exact t1
              · rw [m_ad_lt hb2] at t3; exact t3
              · intro q hq
                rcases List.mem_append.mp hq with hq | hq
                · exact hlo q hq
                · simp only [List.mem_singleton] at hq
                  rw [hq]
                  show s0.heap.size ≤ m_ad _ _ a
                  rw [m_ad_lt hb2]; omega
          · omega
        · cases h2
      · cases h2
    · cases h2
  case arraylength =>
    simp only [m_step] at h2
    split at h2
    · rename_i a S1
      have e0 : len = 1 := by simp [m_len] at hlen; exact hlen.symm
      subst e0
      split at h2
      · rename_i t n f e1
        simp only [Option.some.injEq, Prod.mk.injEq] at h2
        obtain ⟨rfl, rfl, rfl, rfl⟩ := h2
        by_cases ht : t = 0
        · subst ht
          obtain ⟨cell, x1, x2, x3, x4, x5, x6⟩ := m_isInts hR hr hW.alike hK e1
          exact W.alen (n := Int32.ofNat n) hx hb x1 x2 x4.2 rfl rfl hdg (k H locs ls _ _ hR hl hlo rfl rfl)
        · obtain ⟨ha, hb2, hrel⟩ := m_own hR hr (a := a) (by rw [e1]; intro q; cases q) (fun n f => Or.inl (by rw [e1]; intro q; simp at q; exact ht q.1))
          rw [e1] at hrel
          have ht1 : t = 1 := hrel.1.1.resolve_left ht
          subst ht1
          rw [← m_ad_lt (rom := rom) hb2] at hrel
          exact W.alen (n := Int32.ofNat n) hx hb hrel.2 ((hK.2 1 _ rfl).1 n _) (by rw [arrV_size]) rfl rfl hdg (k H locs ls _ _ hR hl hlo rfl rfl)
      · rename_i n f e1
        simp only [Option.some.injEq, Prod.mk.injEq] at h2
        obtain ⟨rfl, rfl, rfl, rfl⟩ := h2
        obtain ⟨ha, hb2, hrel⟩ := m_own hR hr (a := a) (by rw [e1]; intro q; cases q) (fun n f => Or.inl (by rw [e1]; intro q; cases q))
        rw [e1, ← m_ad_lt (rom := rom) hb2] at hrel
        exact W.alen (n := Int32.ofNat n) hx hb hrel.2 ((hK.2 2 _ rfl).1 n _) (by rw [arrV_size]) rfl rfl hdg (k H locs ls _ _ hR hl hlo rfl rfl)
      · rename_i n f e1
        simp only [Option.some.injEq, Prod.mk.injEq] at h2
        obtain ⟨rfl, rfl, rfl, rfl⟩ := h2
        obtain ⟨ha, hb2, hrel⟩ := m_own hR hr (a := a) (by rw [e1]; intro q; cases q) (fun n f => Or.inl (by rw [e1]; intro q; cases q))
        rw [e1, ← m_ad_lt (rom := rom) hb2] at hrel
        exact W.alen (n := Int32.ofNat n) hx hb hrel.2 ((hK.2 3 _ rfl).1 n _) (by rw [arrV_size]) rfl rfl hdg (k H locs ls _ _ hR hl hlo rfl rfl)
      · cases h2
    · cases h2
  case new ix =>
    simp only [m_step] at h2
    split at h2
    rotate_left
    · cases h2
    rename_i ci e1
    split at h2
    · rename_i e7
      simp only [Option.some.injEq, Prod.mk.injEq] at h2
      obtain ⟨rfl, rfl, rfl, rfl⟩ := h2
      have e0 : len = 3 := by simp [m_len] at hlen; exact hlen.symm
      subst e0
      have hci : ci < 7 := by simpa using e7
      obtain ⟨n1, n2⟩ := m_ne_ok e1
      have hgc : m_cls[ci]? = some (m_cls[ci]'(by show ci < 7; exact hci)) := List.getElem?_eq_getElem _
      generalize m_cls[ci]'(by show ci < 7; exact hci) = r at hgc
      obtain ⟨Cn, T, N⟩ := r
      obtain ⟨g1, g2, g3, g4, g5, g6, g7, g8, g9, g10⟩ := m_cls_ok hgc
      rw [g9] at n1
      have hz : H.size = s0.heap.size + h.2.1 := hR.1
      have hb3 : h.2.1 + 1 ≤ 2000000 := hB
      have hC' : cells + (h.2.1 + 1) ≤ R.cells + h.2.1 := hC
      have hS' : slots + (h.2.2 + m_sz ci) ≤ R.slots + h.2.2 := hSl
      have hs : m_sB = 1000000000 := rfl
      refine m_W_new (D := D) (cA := cA) (ci := ci) hx hb hown hts g1 g2 hK hgc n1 g4 g5 (by omega) (by omega) hdg (fun H1 t1 t2 t3 => ?_)
      have e9 : Value.ref H.size :: S.map (m_cv (m_ad s0.heap.size rom)) = (Value.ref h.2.1 :: S).map (m_cv (m_ad s0.heap.size rom)) := by
        rw [List.map_cons]
        show _ = Value.ref (m_ad _ _ _) :: _
        rw [m_ad_lt (by omega), hz]
      rw [e9]
      refine k H1 locs ls _ _ (m_rel_push hR hb3 (Or.inl ⟨_, hgc, g7, ?_⟩) t2 t3) hl hlo ?_ ?_
      · rw [← hz]
        refine t1.to (fun j hj => ?_)
        rw [g8 j hj]
        show _ = ((m_df ci).map (m_cv (m_ad s0.heap.size rom))).getD j Value.null
        have hdn : ∀ v ∈ m_df ci, m_cv (m_ad s0.heap.size rom) v = v := by
          intro v hv
          have hall : ∀ ci, ci < 7 → ∀ v ∈ m_df ci, v = .null ∨ v = .int 0 := by decide
          rcases hall ci hci v hv with rfl | rfl <;> rfl
        rw [List.map_congr_left hdn, List.map_id']
      · show cells + 1 + h.2.1 = cells + (h.2.1 + 1); omega
      · show slots + N + h.2.2 = slots + (h.2.2 + m_sz ci); omega
    · cases h2
  case invokespecial ix =>
    simp only [m_step] at h2
    split at h2
    · rename_i a S1 e1
      split at h2
      · rename_i e3
        simp only [Option.some.injEq, Prod.mk.injEq] at h2
        obtain ⟨rfl, rfl, rfl, rfl⟩ := h2
        have e0 : len = 3 := by simp [m_len] at hlen; exact hlen.symm
        subst e0
        simp only [Bool.and_eq_true, decide_eq_true_eq] at e3
        have h3 := m_pr_ok e1
        simp only [m_ckP, decide_eq_true_eq] at h3
        refine W.objInit hx hb hown (hts _ h3) (hts _ (m_one_in _ (by simp))) (hts _ (m_one_in _ (by simp))) rfl (by rw [hml]; exact hl.1.1) rfl hdg (by rw [hF]; exact e3.1) ?_ ?_
        · have := m_cv_words (m_ad s0.heap.size rom) S1
          have h0 : (F0 m pc ls (Value.ref (m_ad s0.heap.size rom a) :: S1.map (m_cv (m_ad s0.heap.size rom)))).monitorRoom = 0 := rfl
          rw [hLo]
          show 2 * 0 + _ + 12 ≤ _
          rw [this]; omega
        · exact k H locs ls _ _ hR hl hlo rfl rfl
      · cases h2
    · cases h2
  case invokestatic ix =>
    simp only [m_step] at h2
    split at h2
    · rename_i z x S1 e1
      split at h2
      · rename_i e3
        simp only [Option.some.injEq, Prod.mk.injEq] at h2
        obtain ⟨rfl, rfl, rfl, rfl⟩ := h2
        have e0 : len = 3 := by simp [m_len] at hlen; exact hlen.symm
        subst e0
        simp only [Bool.and_eq_true, decide_eq_true_eq] at e3
        have h3 := m_pr_ok e1
        simp only [m_ckP, decide_eq_true_eq] at h3
        refine va_mmax hx hb (by rw [hml]; exact hl.1.1.symm) hown (hts _ h3) (hts _ (m_one_in _ (by simp))) (hts _ (m_one_in _ (by simp))) (hts _ (m_one_in _ (by simp))) (by rw [hF]; exact e3.1) ?_ (by omega) (by omega) hdg (k H locs ls _ _ hR hl hlo rfl rfl)
        rw [m_cv_words, hLo]; exact e3.2
      · cases h2
    · rename_i z x S1 e1
      split at h2
      · rename_i e3
        simp only [Option.some.injEq, Prod.mk.injEq] at h2
        obtain ⟨rfl, rfl, rfl, rfl⟩ := h2
        have e0 : len = 3 := by simp [m_len] at hlen; exact hlen.symm
        subst e0
        simp only [Bool.and_eq_true, decide_eq_true_eq] at e3
        have h3 := m_pr_ok e1
        simp only [m_ckP, decide_eq_true_eq] at h3
        refine va_mmin hx hb (by rw [hml]; exact hl.1.1.symm) hown (hts _ h3) (hts _ (m_one_in _ (by simp))) (hts _ (m_one_in _ (by simp))) (hts _ (m_one_in _ (by simp))) (by rw [hF]; exact e3.1) ?_ (by omega) (by omega) hdg (k H locs ls _ _ hR hl hlo rfl rfl)
        rw [m_cv_words, hLo]; exact e3.2
      · cases h2
    · cases h2
end SIM
