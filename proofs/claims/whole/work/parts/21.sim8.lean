/-- the outcome in the JVM -/
def m_out (ad : Nat → Nat) (o : mE) : Outcome := match o with
  | .inl v => .returned (v.map (m_cv ad))
  | .inr x => .threw (ad x)
/-- THE END of an invocation: what it answered or threw; the heap is the machine's; nothing that was there before the law is written; at most K cells of N slots are new -/
def m_Fin (s0 : State) (rom : Nat → Nat) (romC : Nat → mC) (D : va_G) (cA eC : Nat → ClassId) (s : State) (below : List Frame) (o : mE) (h' : mH) (K N : Nat) (t : State) : Prop :=
  t.status = .running ∧ Ended t below (m_out (m_ad s0.heap.size rom) o) ∧ s.WarmedH t.vm ∧ (∃ Lc : List Loc, s.sameButNew ({ t with vm := s.vm } : State) Lc K N ∧ ∀ q ∈ Lc, s0.heap.size ≤ q.base) ∧ m_Rel s0 rom romC D cA eC h' t.heap
def m_names : List String := ["java/lang/RuntimeException", "java/lang/Exception"]
section SIM
variable {p : Program} {l : Launch} {e : Env} {R : Room} {s0 s : State} {m : MethodId} {args : Array Value} {below : List Frame} {meth : Method} {c : Code} {H : Heap} {locs : List Loc} {cells slots : Nat} {ls : Array Slot}
variable {rom : Nat → Nat} {romC : Nat → mC} {D : va_G} {cA eC : Nat → ClassId} {y pc len tgt pc' : Nat} {i : Instr} {L L' : mL} {S S' : List Value} {h h' h0 : mH}
theorem m_px_ok {o ix ci : Nat} (h : m_px o ix = some ci) : o = 5 ∧ ((ix = 72 ∧ ci = 7) ∨ (ix = 83 ∧ ci = 8)) := by
  unfold m_px at h
  split at h
  · cases h; exact ⟨rfl, Or.inl ⟨rfl, rfl⟩⟩
  · cases h; exact ⟨rfl, Or.inr ⟨rfl, rfl⟩⟩
  · cases h
set_option maxRecDepth 100000 in
theorem m_exin : ∀ w ∈ [Cond.initialized (m_R 7), Cond.initialized (m_R 8)], w ∈ m_tb := by decide +kernel
theorem m_hd_hw : ∀ y, y < 119 → m_hd y = [] → m_hw y = [] := by decide +kernel
theorem m_rel_plain (R : m_Rel s0 rom romC D cA eC h H) {q : Nat} (hq : s0.heap.size ≤ q) {cell : Cell} (hc : H[q]? = some cell) : cell.vm.isStatics = false := by
  obtain ⟨r1, r2, r3, -⟩ := R
  have hlt : q < H.size := (Array.getElem?_eq_some_iff.mp hc).1
  obtain ⟨k, rfl⟩ := Nat.exists_eq_add_of_le hq
  have hk := r3 k (by omega)
  revert hk
  rcases h.1 k with ⟨t, n, f⟩ | ⟨n, f⟩ | ⟨n, f⟩ | ⟨ci, fs⟩
  · intro hk; rw [hk.2] at hc; cases hc; rfl
  · intro hk; rw [hk.2] at hc; cases hc; rfl
  · intro hk; rw [hk.2] at hc; cases hc; rfl
  · rintro (⟨r, -, -, cell', z1, -, z3, -⟩ | ⟨-, -, cell', z1, -, z3⟩)
    · rw [z1] at hc; cases hc; rw [z3]; rfl
    · rw [z1] at hc; cases hc; rw [z3]; rfl
set_option maxHeartbeats 4000000 in
theorem m_simX {x : Nat} (C : m_Fr p s0 s m args meth c y) (htr : l.admits e → e.platform.stackTraces = false) (hent : m_Rel s0 rom romC D cA eC h0 s.heap) (hh0 : h0.2.1 ≤ h.2.1)
    (hth : ∀ ci ic, ((ic = 72 ∧ ci = 7) ∨ (ic = 83 ∧ ci = 8)) → ∀ a ∈ Jvm.Bundle.ownAtoms "EscapeCells" ic (m_R ci) m_names, a.before args s = true) (hec : ∀ ci, (ci = 7 ∨ ci = 8) → s.vm.findClass (m_R ci) = some (eC ci))
    (hstr : ∀ k v, m_lc 5 k = some (.ref v) → ∃ (tx : String) (q : Nat), vk_R "EscapeCells" k tx q s)
    (hR : m_Rel s0 rom romC D cA eC h H) (hl : m_Loc (m_ad s0.heap.size rom) ls (m_ml y) L) (hF : R.frames = m_nf y) (hLo : R.locals = m_nw y)
    (h1 : m_at y pc = some (i, len, tgt)) (h2 : m_thr y pc i S h = some (x, h')) (hC : cells + 1 ≤ R.cells) (hSl : slots + 6 ≤ R.slots) (hB : h'.2.1 ≤ 2000000) (hlo : ∀ q ∈ locs, s0.heap.size ≤ q.base) :
    W p l e R s m args below meth c H locs cells slots (m_Fin s0 rom romC D cA eC s below (.inr x) h' (cells + 1) (slots + 6)) (F0 m pc ls (S.map (m_cv (m_ad s0.heap.size rom)))) := by
  obtain ⟨hx, hb, hml, hown, hW, hts, hnm, hrt, hlk, hex, hy⟩ := C
  obtain ⟨hdg, hck⟩ := m_at_ok hy h1
  simp only [m_ck2, Bool.and_eq_true, Bool.or_eq_true, decide_eq_true_eq] at hck
  obtain ⟨hlen, -, -⟩ := hck
  unfold m_thr at h2
  split at h2
  · rename_i ix
    split at h2
    · rename_i ci e1
      split at h2
      · rename_i e2
        simp only [Option.some.injEq, Prod.mk.injEq] at h2
        obtain ⟨rfl, rfl⟩ := h2
        have e0 : len = 3 := by simp [m_len] at hlen; exact hlen.symm
        subst e0
        simp only [Bool.and_eq_true, Nat.ble_eq, Nat.blt_eq, List.isEmpty_iff] at e2
        obtain ⟨⟨c7, c9⟩, hseq, hhd, hnf, hnw⟩ := e2
        unfold m_seq at hseq
        split at hseq
        · rename_i t1 t2 kx t3 t4 jx t5 t6 t7 t8 a3 a4 a6 a9
          split at hseq
          · rename_i v cj b1 b2
            have ecj : ci = cj := Nat.eq_of_beq_eq_true hseq
            subst ecj
            obtain ⟨ho, hpx⟩ := m_px_ok b2
            rw [ho] at hown b1 e1
            have hci : ci = 7 ∨ ci = 8 := by omega
            obtain ⟨d3, k3⟩ := m_at_ok hy a3
            obtain ⟨d4, k4⟩ := m_at_ok hy a4
            obtain ⟨d6, k6⟩ := m_at_ok hy a6
            obtain ⟨d9, k9⟩ := m_at_ok hy a9
            simp only [m_ck2, Bool.and_eq_true, Bool.or_eq_true, decide_eq_true_eq] at k3 k4 k6 k9
            have l3 : t1 = 1 := by have q := k3.1; simp [m_len] at q; exact q.symm
            have l4 : t3 = 2 := by have q := k4.1; simp [m_len] at q; exact q.symm
            have l6 : t5 = 3 := by have q := k6.1; simp [m_len] at q; exact q.symm
            have l9 : t7 = 1 := by have q := k9.1; simp [m_len] at q; exact q.symm
            subst l3; subst l4; subst l6; subst l9
            obtain ⟨n1, n2⟩ := m_ne_ok e1
            have hat := hth ci jx hpx
            have hz : H.size = s0.heap.size + h.2.1 := hR.1
            have hz0 : s.heap.size = s0.heap.size + h0.2.1 := hent.1
            have hs : m_sB = 1000000000 := rfl
            have hR2 : h.2.1 ≤ 2000000 := hR.2.1
            have hB' : h.2.1 + 1 ≤ 2000000 := hB
            obtain ⟨tx, q, hq⟩ := hstr kx v b1
            refine W.newcK hx hb (own := m_R 5) hown (hts _ n1) (hat (.instantiable (m_R ci) 6) (by simp [Jvm.Bundle.ownAtoms])) (hts _ (by rcases hci with rfl | rfl <;> exact m_exin _ (by simp))) rfl hdg hC hSl (hec ci hci) rfl fun H' kC g1 g2 g3 g4 => ?_
            refine lv_dup hx hb d3 rfl ?_
            refine va_ldcS hx hb hown hq d4 ?_
            intro T hT Xs
            obtain ⟨U, ce, w1, w2, w3, w4, w5, w6, w7, w8⟩ := m_ctorThrow Xs hx (htr Xs.admits) (own := "EscapeCells") (names := m_names) (cls := m_R ci) (ic := jx) hown (by rcases hci with rfl | rfl <;> decide +kernel) (by decide +kernel) hat
              (fun z hz cell hcell => m_rel_plain hent (hlo z hz) hcell) (a := H.size) (hec ci hci) g1 (by rw [hT]; exact g2) (by omega) (msg := .ref q) rfl
              (g := F0 m (pc + 3 + 1 + 2) ls (.ref q :: .ref H.size :: .ref H.size :: S.map (m_cv (m_ad s0.heap.size rom)))) rfl (by rw [hml]; exact hl.1.1) rfl rfl rfl (by rw [hb]; exact d6) (by rw [hb]; exact d9)
              (fun z hz => by
                have hq2 : m_hw y = [] := by
                  have hh := m_hd_hw y hy hhd
                  exact hh
                rw [hq2] at hex
                have : c.exceptionTable.toList = [] := by simpa using hex
                rw [this] at hz; cases hz)
              (by rw [hF]; show 2 + 3 < _; omega)
              (by
                show 2 * 0 + (((Value.ref H.size) :: S.map (m_cv (m_ad s0.heap.size rom))).map fun v => v.category).sum + (13 * (2 + 1) + 42) ≤ R.locals
                rw [List.map_cons, List.sum_cons, m_cv_words, hLo]
                show 2 * 0 + (1 + m_words S) + (13 * (2 + 1) + 42) ≤ m_nw y
                omega) hlk
            refine ⟨U, w1, w2, ?_, w4, ⟨locs, w5, hlo⟩, ?_⟩
            · show Ended U below (.threw (m_ad s0.heap.size rom h.2.1))
              rw [m_ad_lt (by omega), ← hz]; exact w3
            · have hUs : U.heap.size = H.size + 1 := by rw [w6, Array.size_setIfInBounds, hT, g3]
              have hlt : H.size < T.heap.size := by rw [hT, g3]; omega
              refine m_rel_push hR hB' ?_ hUs (fun z hz => ?_)
              · refine Or.inr ⟨hci, rfl, ce, ?_, w7, w8⟩
                rw [← hz, w6]; simp [Array.getElem?_setIfInBounds, hlt]
              · rw [w6, Array.getElem?_setIfInBounds_ne (by omega), hT]; exact g4 z hz
          · cases hseq
        · cases hseq
      · cases h2
    · cases h2
  · cases h2
end SIM
