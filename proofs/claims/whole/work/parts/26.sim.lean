/-! THE SIMULATION: what the machine does, the JVM does -/
/-- what is known at every invocation -/
def m_Inv (D : va_G) (cA eC : Nat → ClassId) (args : Array Value) (s : State) : Prop :=
  va_K D m_cls (m_at0 cA) s ∧ (∀ w ∈ m_tb, w.before args s = true) ∧ (Cond.arrayOver (.array .int)).before args s = true ∧
  (∀ q ∈ [(59, "STEP_X"), (62, "STEP_Y")], (Cond.fieldLinkNest "EscapeCells$Storey" q.1 "EscapeCells" q.2 "[I" "EscapeCells").before args s = true) ∧
  (∀ ci ic, ((ic = 72 ∧ ci = 7) ∨ (ic = 83 ∧ ci = 8)) → ∀ a ∈ Jvm.Bundle.ownAtoms "EscapeCells" ic (m_R ci) m_names, a.before args s = true) ∧
  (∀ ci, (ci = 7 ∨ ci = 8) → s.vm.findClass (m_R ci) = some (eC ci)) ∧
  (∀ k v, m_lc 5 k = some (.ref v) → ∃ (tx : String) (q : Nat), vk_R "EscapeCells" k tx q s) ∧
  (∀ ci cj, (ci = 7 ∨ ci = 8) → (cj = 7 ∨ cj = 8) → s.vm.assignable (eC ci) (eC cj) = decide (cj = ci))
theorem m_entry_loc {ad : Nat → Nat} {As : List Value} {n : Nat} (h1 : ∀ v ∈ As, m_one v = true) (h2 : As.length ≤ n) :
    m_Loc ad ((lg_sl (As.map (m_cv ad)) ++ List.replicate (n - (lg_sl (As.map (m_cv ad))).length) Slot.unset).toArray) n (As.map some ++ List.replicate (n - As.length) none) := by
  have hc : ∀ v ∈ As, v.category = 1 := fun v hv => by
    have := h1 v hv
    unfold m_one at this
    split at this <;> first | rfl | cases this
  have hsl : ∀ vs : List Value, (∀ v ∈ vs, v.category = 1) → (lg_sl vs).length = vs.length := by
    intro vs hv
    induction vs with
    | nil => rfl
    | cons v t ih =>
      have e1 := hv v List.mem_cons_self
      have e2 := ih (fun w hw => hv w (List.mem_cons_of_mem _ hw))
      show (lg_sl (v :: t)).length = t.length + 1
      have : lg_sl (v :: t) = (if v.category = 2 then [.val v, .second] else [.val v]) ++ lg_sl t := rfl
      rw [this, if_neg (by rw [e1]; decide), List.length_append, e2]
      simp; omega
  have hcm : ∀ v ∈ As.map (m_cv ad), v.category = 1 := fun v hv => by
    obtain ⟨w, hw, rfl⟩ := List.mem_map.mp hv
    rw [m_cv_cat]; exact hc w hw
  have hlen := hsl _ hcm
  rw [List.length_map] at hlen
  have hE := lv_entry (As.map (m_cv ad)) (n := n) (by rw [hlen]; exact h2)
  have hargs : ∀ (vs : List Value) (i j : Nat) (v : Value), (∀ v ∈ vs, v.category = 1) → vs[j]? = some v → (i + j, v) ∈ lv_args i vs := by
    intro vs
    induction vs with
    | nil => intro i j v _ hj; simp at hj
    | cons w t ih =>
      intro i j v hv hj
      have e1 := hv w List.mem_cons_self
      show (i + j, v) ∈ (i, w) :: lv_args (if w.category = 2 then i + 2 else i + 1) t
      rw [if_neg (by rw [e1]; decide)]
      cases j with
      | zero => simp at hj; subst hj; exact List.mem_cons_self
      | succ j =>
        refine List.mem_cons_of_mem _ ?_
        have := ih (i + 1) j v (fun w hw => hv w (List.mem_cons_of_mem _ hw)) (by simpa using hj)
        rw [show i + 1 + j = i + (j + 1) by omega] at this
        exact this
  refine ⟨⟨hE.1, hE.2.1, fun q hq => ?_⟩, fun v hv => ?_, by simp; omega⟩
  · obtain ⟨i, w⟩ := q
    obtain ⟨q1, v, q2, rfl⟩ := m_asc_mem.mp hq
    refine hE.2.2 (i, m_cv ad v) ?_
    have hi : As[i]? = some v := by
      unfold m_ld at q2
      rw [List.getD_eq_getElem?_getD] at q2
      rcases Nat.lt_or_ge i As.length with hlt | hge
      · rw [List.getElem?_append_left (by simpa using hlt), List.getElem?_map] at q2
        cases hq : As[i]? with
        | none => rw [hq] at q2; simp at q2
        | some z => rw [hq] at q2; simp at q2; rw [q2]
      · rw [List.getElem?_append_right (by simpa using hge), List.getElem?_replicate] at q2
        split at q2 <;> simp at q2
    have := hargs (As.map (m_cv ad)) 0 i (m_cv ad v) hcm (by rw [List.getElem?_map, hi]; rfl)
    simpa using this
  · rcases List.mem_append.mp hv with q | q
    · obtain ⟨w, hw, e⟩ := List.mem_map.mp q
      cases e; exact hc v hw
    · have := List.eq_of_mem_replicate q
      cases this
section SIM
variable {l : Launch} {s0 : State} {rom : Nat → Nat} {romC : Nat → mC} {D : va_G} {cA eC : Nat → ClassId}
theorem W_mono {p : Program} {e : Env} {R : Room} {s : State} {m : MethodId} {args : Array Value} {below : List Frame} {meth : Method} {c : Code} {H : Heap} {locs : List Loc} {cells slots : Nat} {Q Q' : State → Prop} {g : JFrame} (hq : ∀ t, Q t → Q' t) (k : W p l e R s m args below meth c H locs cells slots Q g) : W p l e R s m args below meth c H locs cells slots Q' g := by
  intro T hT X
  obtain ⟨t, a, b⟩ := k T hT X
  exact ⟨t, a, hq t b⟩
set_option maxHeartbeats 4000000 in
/-- a return -/
theorem m_simR {p : Program} {e : Env} {R : Room} {s : State} {m : MethodId} {args : Array Value} {below : List Frame} {meth : Method} {c : Code} {H : Heap} {locs : List Loc} {cells slots : Nat} {ls : Array Slot} {y pc len tgt : Nat} {i : Instr} {S : List Value} {h : mH} {v : Option Value}
    (C : m_Fr p s0 s m args meth c y) (hR : m_Rel s0 rom romC D cA eC h H) (h1 : m_at y pc = some (i, len, tgt)) (h2 : m_ret y i S = some v) (hlo : ∀ q ∈ locs, s0.heap.size ≤ q.base) :
    W p l e R s m args below meth c H locs cells slots (m_Fin s0 rom romC D cA eC s below (.inl v) h cells slots) (F0 m pc ls (S.map (m_cv (m_ad s0.heap.size rom)))) := by
  obtain ⟨hx, hb, hml, hown, hW, hts, hnm, hrt, hlk, hex, hy⟩ := C
  obtain ⟨hdg, hck⟩ := m_at_ok hy h1
  simp only [m_ck2, Bool.and_eq_true, Bool.or_eq_true, decide_eq_true_eq] at hck
  obtain ⟨hlen, -, -⟩ := hck
  have fin : ∀ w : Option Value, ∀ t : State, MQ below (fun _ _ o t => o = .returned w ∧ m_Rel s0 rom romC D cA eC h t.heap) args s cells slots (fun q => s0.heap.size ≤ q) t → w = v.map (m_cv (m_ad s0.heap.size rom)) → m_Fin s0 rom romC D cA eC s below (.inl v) h cells slots t := by
    rintro w t ⟨o, a1, a2, ⟨rfl, a3⟩, Lc, ⟨-, a4, a5⟩, a6⟩ rfl
    exact ⟨a1, a2, a4, ⟨Lc, a5, a6⟩, a3⟩
  unfold m_ret at h2
  split at h2
  · split at h2
    · rename_i hn
      cases h2
      have e0 : len = 1 := by simp [m_len] at hlen; exact hlen.symm
      subst e0
      refine W_mono (fun t ht => fin none t ht rfl) ?_
      exact W.vret hx hb (by rw [hrt]; exact hn) (fun t ht _ => ⟨rfl, by rw [ht]; exact hR⟩) hlo hdg hlk
    · cases h2
  · split at h2
    · rename_i x ty hty
      split at h2
      · rename_i hf
        cases h2
        have e0 : len = 1 := by simp [m_len] at hlen; exact hlen.symm
        subst e0
        refine W_mono (fun t ht => fin (some (.int x)) t ht rfl) ?_
        exact W.zret hx hb (by rw [hrt]; exact hty) (m_fit_ok hf).1 (fun t ht _ => ⟨rfl, by rw [ht]; exact hR⟩) hlo hdg hlk
      · cases h2
    · cases h2
  · split at h2
    · rename_i x ty hty
      cases h2
      have e0 : len = 1 := by simp [m_len] at hlen; exact hlen.symm
      subst e0
      refine W_mono (fun t ht => fin (some (.ref (m_ad s0.heap.size rom x))) t ht rfl) ?_
      exact W.aret hx hb (by rw [hrt]; exact hty) (Or.inr ⟨_, rfl⟩) (Or.inr ⟨_, rfl⟩) (fun t ht _ => ⟨rfl, by rw [ht]; exact hR⟩) hlo hdg hlk
    · cases h2
  · cases h2
/-- the walk from a place on, for so much fuel -/
def m_SimW (l : Launch) (s0 : State) (rom : Nat → Nat) (romC : Nat → mC) (D : va_G) (cA eC : Nat → ClassId) (n : Nat) : Prop :=
  ∀ (y pc : Nat) (L : mL) (S : List Value) (h : mH) (o : mE) (h' : mH), m_exec n y pc L S h = some (o, h') → h'.2.1 ≤ 2000000 →
    ∀ (p : Program) (e : Env) (R : Room) (s : State) (m : MethodId) (args : Array Value) (below : List Frame) (meth : Method) (c : Code) (h0 : mH) (K N : Nat) (H : Heap) (locs : List Loc) (cells slots : Nat) (ls : Array Slot),
      m_Fr p s0 s m args meth c y → m_Rel s0 rom romC D cA eC h0 s.heap → h0.2.1 ≤ h.2.1 → m_Rel s0 rom romC D cA eC h H → m_Loc (m_ad s0.heap.size rom) ls (m_ml y) L → R.frames = m_nf y → R.locals = m_nw y →
      cells + h'.2.1 = K + h.2.1 → slots + h'.2.2 = N + h.2.2 → K ≤ R.cells → N ≤ R.slots → (∀ q ∈ locs, s0.heap.size ≤ q.base) →
      W p l e R s m args below meth c H locs cells slots (m_Fin s0 rom romC D cA eC s below o h' K N) (F0 m pc ls (S.map (m_cv (m_ad s0.heap.size rom))))
theorem m_MX_of {n y : Nat} {As : List Value} {h h' : mH} {o : mE} (hI : ∀ args s, s0.WarmedH s.vm → (∀ q, q < s0.heap.size → s.heap[q]? = s0.heap[q]?) → m_Inv D cA eC args s) (ih : m_SimW l s0 rom romC D cA eC n) (hy : y < 119) (h7 : y ≠ 117) (h1 : ∀ v ∈ As, m_one v = true) (h2 : As.length = m_na y)
    (he : m_exec n y 0 (m_entry y As) [] h = some (o, h')) (hB : h'.2.1 ≤ 2000000) : m_MX l s0 rom romC D cA eC y As h o h' (h'.2.1 - h.2.1) (h'.2.2 - h.2.2) := by
  obtain ⟨b1, b2, b3, b4, b5, b6, b7, b8, b9, b10, b11⟩ := m_meth hy h7
  obtain ⟨hle, -⟩ := m_exec_le _ _ _ _ _ _ _ _ he
  refine MetFree.of_bodyS (code := m_by y) (maxLocals := m_ml y) (ret := m_rt y) (by rw [b2]; exact b6) ?_ ?_
  · intro args s m hp hn
    obtain ⟨meth, c, d1, d2, d3, d4, d5, d6, -, -⟩ := m_cw_spec (atoms_spec (ws := [m_cw y]) hp _ List.mem_cons_self) hn
    exact ⟨meth, c, d1, d2, d3, d4, d5, d6⟩
  · intro p e s m args below meth c s₁ B hml hP _
    obtain ⟨rfl, hW0, hR0⟩ := hP
    have hIs := hI ((As.map (m_cv (m_ad s0.heap.size rom))).toArray) s hW0 hR0.2.2.2.2.2
    have X : Stand p l e { frames := m_nf y, cells := h'.2.1 - h.2.1, slots := h'.2.2 - h.2.2, locals := m_nw y } s m ((As.map (m_cv (m_ad s0.heap.size rom))).toArray) below meth c s₁ [] 0 0 := Stand.of_body B
    obtain ⟨meth', c', d1, d2, d3, d4, d5, d6, d7, d8⟩ := m_cw_spec (atoms_spec (ws := [m_cw y]) B.pre _ List.mem_cons_self) B.named
    cases d1.symm.trans B.method
    cases d2.symm.trans X.code
    have C : m_Fr p s0 s m ((As.map (m_cv (m_ad s0.heap.size rom))).toArray) meth c y :=
      ⟨B.exec, B.bytes, hml, by rw [← b2]; exact findClass_of_methodNamed B.named, hW0, hIs.2.1, (name_of_methodNamed B.named B.method).1, B.returns, B.notSynchronized, d7, hy⟩
    have hh0 : s₁.heap = s.heap := by rw [B.state]; rfl
    have hw := ih y 0 (m_entry y As) [] h o h' he hB p e { frames := m_nf y, cells := h'.2.1 - h.2.1, slots := h'.2.2 - h.2.2, locals := m_nw y } s m ((As.map (m_cv (m_ad s0.heap.size rom))).toArray) below meth c h (h'.2.1 - h.2.1) (h'.2.2 - h.2.2) s.heap [] 0 0 _ C hR0 (Nat.le_refl _) hR0
      (m_entry_loc h1 (by rw [h2]; exact b8)) rfl rfl (by have := hle.1; omega) (by have := hle.2; omega) (Nat.le_refl _) (Nat.le_refl _) (fun q hq => by cases hq)
    rw [lg_entry_eq]
    obtain ⟨t, u1, u2, u3, u4, u5, u6⟩ := hw s₁ hh0 X
    exact ⟨t, _, u1, u2, u3, rfl, u4, u5, u6⟩
set_option maxHeartbeats 8000000 in
theorem m_sim (hr : m_romOk s0 rom romC) (hG : m_Gs s0 rom) (htr : ∀ e, l.admits e → e.platform.stackTraces = false) (hI : ∀ args s, s0.WarmedH s.vm → (∀ q, q < s0.heap.size → s.heap[q]? = s0.heap[q]?) → m_Inv D cA eC args s) : ∀ n, m_SimW l s0 rom romC D cA eC n := by
  intro n
  induction n with
  | zero => intro y pc L S h o h' q; simp [m_exec] at q
  | succ n ih =>
    intro y pc L S h o h' q hB p e R s m args below meth c h0 K N H locs cells slots ls C hR0 hh0 hR hl hF hLo hK hN hKR hNR hlo
    have hIs := hI args s C.2.2.2.2.1 hR0.2.2.2.2.2
    obtain ⟨i1, i2, i3, i4, i5, i6, i7, i8⟩ := hIs
    obtain ⟨hle, hthr⟩ := m_exec_le _ _ _ _ _ _ _ _ q
    rw [m_exec] at q
    cases e1 : m_at y pc with
    | none => rw [e1] at q; simp at q
    | some a =>
      obtain ⟨i, len, tgt⟩ := a
      rw [e1] at q
      dsimp only at q
      cases e2 : m_go y pc i len tgt L S h with
      | some b =>
        obtain ⟨pc', L', S', h1⟩ := b
        rw [e2] at q
        dsimp only at q
        have hle1 := m_go_le e2
        obtain ⟨hle2, -⟩ := m_exec_le _ _ _ _ _ _ _ _ q
        have go : ∀ (H' : Heap) (locs' : List Loc) (ls' : Array Slot) (cells' slots' : Nat), m_Rel s0 rom romC D cA eC h1 H' → m_Loc (m_ad s0.heap.size rom) ls' (m_ml y) L' → (∀ q ∈ locs', s0.heap.size ≤ q.base) → cells' + h.2.1 = cells + h1.2.1 → slots' + h.2.2 = slots + h1.2.2 →
            W p l e R s m args below meth c H' locs' cells' slots' (m_Fin s0 rom romC D cA eC s below o h' K N) (F0 m pc' ls' (S'.map (m_cv (m_ad s0.heap.size rom)))) := by
          intro H' locs' ls' cells' slots' g1 g2 g3 g4 g5
          have := hle1.1; have := hle1.2; have := hle2.1; have := hle2.2
          exact ih y pc' L' S' h1 o h' q hB p e R s m args below meth c h0 K N H' locs' cells' slots' ls' C hR0 (by omega) g1 g2 hF hLo (by omega) (by omega) hKR hNR g3
        have hC1 : cells + h1.2.1 ≤ R.cells + h.2.1 := by have := hle1.1; have := hle2.1; omega
        have hS1 : slots + h1.2.2 ≤ R.slots + h.2.2 := by have := hle1.2; have := hle2.2; omega
        have hB1 : h1.2.1 ≤ 2000000 := Nat.le_trans hle2.1 hB
        unfold m_go at e2
        split at e2
        · rename_i r hstep
          cases e2
          cases hsp : m_spec i with
          | false => exact m_simS C i1 hr hR hl hF hLo e1 hsp hstep hC1 hS1 hB1 hlo go
          | true =>
            unfold m_spec at hsp
            split at hsp
            · rename_i ix
              have hx2 : h1 = h ∧ L' = L := by
                simp only [m_step] at hstep
                split at hstep
                · simp only [Option.some.injEq, Prod.mk.injEq] at hstep
                  exact ⟨hstep.2.2.2.symm, hstep.2.1.symm⟩
                · cases hstep
              obtain ⟨rfl, rfl⟩ := hx2
              exact (m_simG C hG i4 hR e1 hstep (go H locs ls cells slots hR hl hlo rfl rfl)).1
            · cases hsp
        · rename_i hstep
          split at e2
          · rename_i cc x z S1 hbr
            simp only [Option.some.injEq, Prod.mk.injEq] at e2
            obtain ⟨rfl, rfl, rfl, rfl⟩ := e2
            have hg := go H locs ls cells slots hR hl hlo rfl rfl
            refine m_simB C e1 hbr (fun hc => ?_) (fun hc => ?_)
            · rw [m_if_t hc] at hg; exact hg
            · rw [m_if_f hc] at hg; exact hg
          · split at e2
            · rename_i j nn f S1 hal
              by_cases hin : m_in j nn
              · rw [m_if_t hin] at e2
                simp only [Option.some.injEq, Prod.mk.injEq] at e2
                obtain ⟨rfl, rfl, rfl, rfl⟩ := e2
                exact m_simL C i1 hr hR e1 hal hin (go H locs ls cells slots hR hl hlo rfl rfl)
              · rw [m_if_f hin] at e2; cases e2
            · split at e2
              · rename_i j nn a cf S1 has
                by_cases hin : m_in j nn
                · rw [m_if_t hin] at e2
                  simp only [Option.some.injEq, Prod.mk.injEq] at e2
                  obtain ⟨rfl, rfl, rfl, rfl⟩ := e2
                  exact m_simT C i1 hr hR e1 has hin hlo (fun H' locs' g1 g2 => go H' locs' ls cells slots g1 hl g2 rfl rfl)
                · rw [m_if_f hin] at e2; cases e2
              · cases e2
              · exact m_simM C i1 i3 hr hR hl hF hLo e1 e2 hC1 hS1 hB1 hlo go
      | none =>
        rw [e2] at q
        dsimp only at q
        cases e3 : m_inv y i with
        | none =>
          rw [e3] at q
          dsimp only at q
          cases e4 : m_ret y i S with
          | some v =>
            rw [e4] at q
            simp only [Option.some.injEq, Prod.mk.injEq] at q
            obtain ⟨rfl, rfl⟩ := q
            have ek : cells = K := by omega
            have en : slots = N := by omega
            subst ek; subst en
            exact m_simR C hR e1 e4 hlo
          | none =>
            rw [e4] at q
            dsimp only at q
            cases e5 : m_thr y pc i S h with
            | none => rw [e5] at q; cases q
            | some w =>
              obtain ⟨x, h1⟩ := w
              rw [e5] at q
              simp only [Option.some.injEq, Prod.mk.injEq] at q
              obtain ⟨rfl, rfl⟩ := q
              obtain ⟨t1, t2, -⟩ := m_thr_le e5
              have u1 : h1.2.1 = h.2.1 + 1 := by rw [t1]; rfl
              have u2 : h1.2.2 = h.2.2 + 6 := by rw [t1]; rfl
              have ek : cells + 1 = K := by omega
              have en : slots + 6 = N := by omega
              subst ek; subst en
              exact m_simX C (htr e) hR0 hh0 i5 i6 i7 hR hl hF hLo e1 e5 hKR hNR hB hlo
        | some y' =>
          rw [e3] at q
          dsimp only at q
          cases e4 : m_may y y' S h with
          | false => rw [e4] at q; simp at q
          | true =>
            rw [e4] at q
            dsimp only at q
            cases e5 : m_exec n y' 0 (m_entry y' (S.take (m_na y')).reverse) [] h with
            | none => rw [e5] at q; simp at q
            | some w =>
              obtain ⟨o1, h1⟩ := w
              rw [e5] at q
              obtain ⟨hle1, hthr1⟩ := m_exec_le _ _ _ _ _ _ _ _ e5
              have hle2 : m_le h1 h' := by
                cases o1 with
                | inl v => exact (m_exec_le _ _ _ _ _ _ _ _ q).1
                | inr x =>
                  dsimp only at q
                  cases e6 : m_catch y pc h1 x with
                  | none => rw [e6] at q; simp only [Option.some.injEq, Prod.mk.injEq] at q; rw [q.2]; exact m_le_rf _
                  | some t => rw [e6] at q; exact (m_exec_le _ _ _ _ _ _ _ _ q).1
              have hy : y < 119 := C.2.2.2.2.2.2.2.2.2.2
              have hcl : ∃ ix, m_cl (m_o y) ix = some y' := by
                unfold m_inv at e3
                split at e3
                · exact ⟨_, e3⟩
                · exact ⟨_, e3⟩
                · exact ⟨_, e3⟩
                · cases e3
              obtain ⟨ix, hcl⟩ := hcl
              obtain ⟨-, hy', h7'⟩ := m_cl_ok hcl
              have hmay := e4
              simp only [m_may, Bool.and_eq_true, decide_eq_true_eq, List.all_eq_true] at hmay
              have hB1 : h1.2.1 ≤ 2000000 := Nat.le_trans hle2.1 hB
              have hM := m_MX_of hI ih hy' h7' (fun v hv => hmay.2.1 v (List.mem_reverse.mp hv)) (by rw [List.length_reverse, List.length_take, Nat.min_eq_left hmay.1]) e5 hB1
              have z1 := hle1.1; have z2 := hle1.2; have z3 := hle2.1; have z4 := hle2.2
              refine m_simC C i1 hr hR hl hF hLo e1 e3 e4 hM (by omega) (by omega) hlo (fun v hv H' locs' g1 g2 => ?_) (fun x hv T' locs' st XT g1 g2 => ?_)
              · subst hv
                try dsimp only at q
                exact ih y (pc + 3) L _ h1 o h' q hB p e R s m args below meth c h0 K N H' locs' _ _ ls C hR0 (by omega) g1 hl hF hLo (by omega) (by omega) hKR hNR g2
              · subst hv
                try dsimp only at q
                obtain ⟨ci, hci, hcx⟩ := hthr1 x rfl
                obtain ⟨vm', w1, w2, w3⟩ := m_simK (ls := ls) (pc := pc) (st := st) C hr i6 i8 XT g1 hci hcx
                cases e6 : m_catch y pc h1 x with
                | none =>
                  rw [e6] at q
                  simp only [Option.some.injEq, Prod.mk.injEq] at q
                  obtain ⟨rfl, rfl⟩ := q
                  have XT' := XT.noted w1
                  obtain ⟨gg, hfr⟩ := XT'.frames_eq
                  refine ⟨_, w3 e6, XT'.here.running, State.frames_setFrames _ (State.cur_lt_of_frames hfr), (XT'.ends _).1, ⟨locs', ?_, g2⟩, g1⟩
                  have := (XT'.ends (.throwing (m_ad s0.heap.size rom x) :: below)).2
                  have ek : cells + (h1.2.1 - h.2.1) = K := by omega
                  have en : slots + (h1.2.2 - h.2.2) = N := by omega
                  rw [ek, en] at this
                  exact this
                | some t =>
                  rw [e6] at q
                  have hw := ih y t L [.ref x] h1 o h' q hB p e R s m args below meth c h0 K N T'.heap locs' (cells + (h1.2.1 - h.2.1)) (slots + (h1.2.2 - h.2.2)) ls C hR0 (by omega) g1 hl hF hLo (by omega) (by omega) hKR hNR g2
                  obtain ⟨t2, u1, u2⟩ := hw (T'.setVm vm') rfl (XT.noted w1)
                  exact ⟨t2, w2 t e6 t2 u1, u2⟩
end SIM
