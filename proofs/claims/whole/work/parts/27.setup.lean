/-! THE LAW'S ENTRY: what the Statement gives, as the simulation asks it -/
def m_SX (j : Nat) : Int32 := ([1, -1, 0, 0] : List Int32).getD j 0
def m_SY (j : Nat) : Int32 := ([0, 0, 1, -1] : List Int32).getD j 0
/-- what was there before: the two static arrays, the script -/
def m_romC (L : Nat) (xs : Nat → Int32) (j : Nat) : mC := if j = 0 then mI 4 m_SX else if j = 1 then mI 4 m_SY else if j = 2 then mI L xs else mNo
theorem m_eqi {args : Array Value} {s : State} {tm : Term} {z : Int32} (h : (Cond.eq tm (.int z)).before args s = true) : tm.eval args s none [] s = some (.int z) := by
  cases hv : tm.eval args s none [] s with
  | none => simp [Cond.before, Cond.holds, Cond.value, hv] at h
  | some w =>
    have hz : (Term.int z).eval args s none [] s = some (.int z) := rfl
    simp only [Cond.before, Cond.holds, Cond.value, hv, hz] at h
    cases w <;> simp_all
theorem m_face {w : Cond} {a a' : Array Value} {s0 s : State} (hW : s0.WarmedH s.vm) (hk : w.keepsFace = true) (ho : w.onTables = true) (h : w.before a s0 = true) : w.before a' s = true := by
  have h1 : w.before a (s0.setVm s.vm) = true := Cond.before_shiftedFace (State.Shifted.of_warmed hW) w hk h
  have e := Cond.onTables_vm (A := a) (A' := a') (U := s0) (U' := s) s.vm w ho
  have hU : s.setVm s.vm = s := rfl
  rw [hU] at e
  rw [← e]; exact h1
def m_isLS : Cond → Bool
  | .laysStatic _ _ _ => true
  | _ => false
/-- an exception's atoms: how each comes to a later state -/
def m_okA (a : Cond) : Bool := decide (a ∈ m_tb) || ((decide (a ∈ lw_tbl) && (a.keepsFace && a.onTables)) || ((m_isLS a && decide (a ∈ lw_tbl)) || decide (a ∈ [Cond.isRef (.static "java/lang/Throwable" "UNASSIGNED_STACK" "[Ljava/lang/StackTraceElement;"), Cond.isRef (.static "java/lang/Throwable" "SUPPRESSED_SENTINEL" "Ljava/util/List;")])))
set_option maxRecDepth 100000 in
theorem m_okA7 : (Jvm.Bundle.ownAtoms "EscapeCells" 72 (m_R 7) m_names).all m_okA = true := by decide +kernel
set_option maxRecDepth 100000 in
theorem m_okA8 : (Jvm.Bundle.ownAtoms "EscapeCells" 83 (m_R 8) m_names).all m_okA = true := by decide +kernel
set_option maxRecDepth 100000 in
theorem m_in2 : ∀ w ∈ [Cond.instantiable (m_R 7) 6, Cond.instantiable (m_R 8) 6, Cond.initialized "EscapeCells", Cond.initialized "java/lang/Throwable"], w ∈ m_tb := by decide +kernel
set_option maxRecDepth 100000 in
theorem m_in3 : ∀ w ∈ [Cond.arrayOver (.array .int), Cond.fieldLinkNest "EscapeCells$Storey" 59 "EscapeCells" "STEP_X" "[I" "EscapeCells", Cond.fieldLinkNest "EscapeCells$Storey" 62 "EscapeCells" "STEP_Y" "[I" "EscapeCells", Cond.laysStatic "EscapeCells" "STEP_X" "[I", Cond.laysStatic "EscapeCells" "STEP_Y" "[I", Cond.laysStatic "java/lang/Throwable" "UNASSIGNED_STACK" "[Ljava/lang/StackTraceElement;", Cond.laysStatic "java/lang/Throwable" "SUPPRESSED_SENTINEL" "Ljava/util/List;", Cond.castable (m_R 7) (m_R 7), Cond.castable (m_R 8) (m_R 8)], w ∈ lw_tbl := by decide +kernel
/-- the texts -/
def m_txs : List (Nat × String) := [(70, "no such cell"), (81, "a person is in the cell"), (101, "no such cell or rate"), (103, "the cell is a wall or a person is in it"), (111, "there were as many exits as there may be"), (122, "the cell is a wall or an exit"), (127, "no such cell or second"), (132, "no such cell, pace or delay"), (137, "someone is in the cell, or there are too many"), (149, "no such person or exit"), (158, "no such cell or exit"), (169, "no such person or question"), (171, "there was no run"), (185, "no such person, second or axis"), (199, "no such second")]
set_option maxRecDepth 100000 in
theorem m_txs_in : ∀ q ∈ m_txs, Cond.stringRef "EscapeCells" q.1 q.2 ∈ lw_tbl := by decide +kernel
theorem m_txs_all : ∀ q ∈ m_lcs.getD 5 [], (m_txs.map Prod.fst).contains q.1 = true := by decide +kernel
set_option maxRecDepth 100000 in
theorem m_nar : ∀ w ∈ [Cond.arrayOf (.static "EscapeCells" "STEP_X" "[I") .int, Cond.eq (.length (.static "EscapeCells" "STEP_X" "[I")) (.int 4), Cond.eq (.elem (.static "EscapeCells" "STEP_X" "[I") (.int 0)) (.int 1), Cond.eq (.elem (.static "EscapeCells" "STEP_X" "[I") (.int 1)) (.int (-1)), Cond.eq (.elem (.static "EscapeCells" "STEP_X" "[I") (.int 2)) (.int 0), Cond.eq (.elem (.static "EscapeCells" "STEP_X" "[I") (.int 3)) (.int 0),
    Cond.arrayOf (.static "EscapeCells" "STEP_Y" "[I") .int, Cond.eq (.length (.static "EscapeCells" "STEP_Y" "[I")) (.int 4), Cond.eq (.elem (.static "EscapeCells" "STEP_Y" "[I") (.int 0)) (.int 0), Cond.eq (.elem (.static "EscapeCells" "STEP_Y" "[I") (.int 1)) (.int 0), Cond.eq (.elem (.static "EscapeCells" "STEP_Y" "[I") (.int 2)) (.int 1), Cond.eq (.elem (.static "EscapeCells" "STEP_Y" "[I") (.int 3)) (.int (-1)),
    Cond.isRef (.static "java/lang/Throwable" "UNASSIGNED_STACK" "[Ljava/lang/StackTraceElement;"), Cond.isRef (.static "java/lang/Throwable" "SUPPRESSED_SENTINEL" "Ljava/util/List;"), Cond.not (.castable (m_R 8) (m_R 7)), Cond.not (.castable (m_R 7) (m_R 8))], w ∈ flatC (Jvm.Cond.and given_1 narrow_1) := by decide +kernel
theorem m_ncast {C T : String} {args : Array Value} {s : State} {c t : ClassId} (hc : s.vm.findClass C = some c) (ht : s.vm.findClass T = some t) (h : (Cond.not (.castable C T)).before args s = true) : s.vm.assignable c t = false := by
  simp only [Cond.before, Cond.holds, Cond.value, hc, ht] at h
  cases q : s.vm.assignable c t with
  | false => rfl
  | true => simp [q] at h
set_option maxHeartbeats 4000000 in
theorem m_setup {s0 : State} {b L : Nat} {xs : Nat → Int32} (hL : L ≤ 2562) (hts : ∀ w ∈ lw_tbl, w.before #[Value.ref b] s0 = true) (hX : va_X b L xs s0 s0.heap) (hbl : b < s0.heap.size) (hgv : (Jvm.Cond.and given_1 narrow_1).before #[Value.ref b] s0 = true) :
    ∃ (rom : Nat → Nat) (D : va_G) (cA eC : Nat → ClassId), rom 2 = b ∧ m_romOk s0 rom (m_romC L xs) ∧ m_Gs s0 rom ∧ (∀ args s, s0.WarmedH s.vm → (∀ q, q < s0.heap.size → s.heap[q]? = s0.heap[q]?) → m_Inv D cA eC args s) := by
  have hn : ∀ w ∈ flatC (Jvm.Cond.and given_1 narrow_1), w.before #[Value.ref b] s0 = true := flat_of_before _ hgv
  have htb : ∀ w ∈ m_tb, w.before #[Value.ref b] s0 = true := fun w hw => hts w (m_tb_in hw).1
  have hA : ∀ a : Nat, a < s0.heap.size → ¬ (fun q => s0.heap.size ≤ q) a := fun a h => Nat.not_le.mpr h
  -- the static arrays
  obtain ⟨t0, ht0, hT0⟩ := va_Tof (N := 4) (f := fun j => .int (m_SX j)) (A := fun q => s0.heap.size ≤ q) (by decide) (hn _ (m_nar _ (by simp : Cond.arrayOf (.static "EscapeCells" "STEP_X" "[I") .int ∈ _))) (m_eqi (hn _ (m_nar _ (by simp : Cond.eq (.length (.static "EscapeCells" "STEP_X" "[I")) (.int 4) ∈ _))))
    (fun j hj => by
      match j, hj with
      | 0, _ => exact m_eqi (hn _ (m_nar _ (by simp : Cond.eq (.elem (.static "EscapeCells" "STEP_X" "[I") (.int 0)) (.int 1) ∈ _)))
      | 1, _ => exact m_eqi (hn _ (m_nar _ (by simp : Cond.eq (.elem (.static "EscapeCells" "STEP_X" "[I") (.int 1)) (.int (-1)) ∈ _)))
      | 2, _ => exact m_eqi (hn _ (m_nar _ (by simp : Cond.eq (.elem (.static "EscapeCells" "STEP_X" "[I") (.int 2)) (.int 0) ∈ _)))
      | 3, _ => exact m_eqi (hn _ (m_nar _ (by simp : Cond.eq (.elem (.static "EscapeCells" "STEP_X" "[I") (.int 3)) (.int 0) ∈ _)))) hA
  obtain ⟨t1, ht1, hT1⟩ := va_Tof (N := 4) (f := fun j => .int (m_SY j)) (A := fun q => s0.heap.size ≤ q) (by decide) (hn _ (m_nar _ (by simp : Cond.arrayOf (.static "EscapeCells" "STEP_Y" "[I") .int ∈ _))) (m_eqi (hn _ (m_nar _ (by simp : Cond.eq (.length (.static "EscapeCells" "STEP_Y" "[I")) (.int 4) ∈ _))))
    (fun j hj => by
      match j, hj with
      | 0, _ => exact m_eqi (hn _ (m_nar _ (by simp : Cond.eq (.elem (.static "EscapeCells" "STEP_Y" "[I") (.int 0)) (.int 0) ∈ _)))
      | 1, _ => exact m_eqi (hn _ (m_nar _ (by simp : Cond.eq (.elem (.static "EscapeCells" "STEP_Y" "[I") (.int 1)) (.int 0) ∈ _)))
      | 2, _ => exact m_eqi (hn _ (m_nar _ (by simp : Cond.eq (.elem (.static "EscapeCells" "STEP_Y" "[I") (.int 2)) (.int 1) ∈ _)))
      | 3, _ => exact m_eqi (hn _ (m_nar _ (by simp : Cond.eq (.elem (.static "EscapeCells" "STEP_Y" "[I") (.int 3)) (.int (-1)) ∈ _)))) hA
  -- the classes of arrays
  obtain ⟨c0, k0, p0, f0, g0, d0⟩ := Cond.arrayClass_spec (htb _ (m_one_in _ (by simp : Cond.arrayClass .int ∈ _)))
  obtain ⟨c1, k1, p1, f1, g1, d1⟩ := Cond.arrayClass_spec (htb _ (m_one_in _ (by simp : Cond.arrayClass .boolean ∈ _)))
  obtain ⟨c2, k2, p2, f2, g2, d2⟩ := Cond.arrayClass_spec (htb _ (m_one_in _ (by simp : Cond.arrayClass .long ∈ _)))
  have hov : (Cond.arrayOver (.array .int)).before #[Value.ref b] s0 = true := hts _ (m_in3 _ (by simp))
  obtain ⟨p3, c3, k3, f3a, -, g3, d3, f3⟩ := arrayOverA_spec hov
  -- the classes
  have hcl : ∀ k : Nat, ∃ (cC : ClassId) (iS : Nat → Nat), ∀ q : vw_C, m_cls[k]? = some q → u_Kn s0 q.1 q.2.1 q.2.2 cC iS := by
    intro k
    cases hq : m_cls[k]? with
    | none => exact ⟨0, fun _ => 0, fun q h => by cases h⟩
    | some q =>
      obtain ⟨C, T, N⟩ := q
      obtain ⟨z1, z2, z3, z4, z5, z6, z7, z8, z9, z10⟩ := m_cls_ok hq
      obtain ⟨cC, iS, hk⟩ := u_known htb z1 (htb _ z4)
      exact ⟨cC, iS, fun q h => by cases h; exact hk⟩
  -- the exceptions
  obtain ⟨e7, k7, fe7, -⟩ := Cond.instantiable_spec (htb _ (m_in2 _ (by simp : Cond.instantiable (m_R 7) 6 ∈ _)))
  obtain ⟨e8, k8, fe8, -⟩ := Cond.instantiable_spec (htb _ (m_in2 _ (by simp : Cond.instantiable (m_R 8) 6 ∈ _)))
  have hlsX := hts _ (m_in3 _ (by simp : Cond.laysStatic "EscapeCells" "STEP_X" "[I" ∈ _))
  have hlsY := hts _ (m_in3 _ (by simp : Cond.laysStatic "EscapeCells" "STEP_Y" "[I" ∈ _))
  have hini := htb _ (m_in2 _ (by simp : Cond.initialized "EscapeCells" ∈ _))
  refine ⟨fun j => if j = 0 then t0 else if j = 1 then t1 else b, (fun k => (hcl k).choose, fun k => (hcl k).choose_spec.choose), fun k => if k = 0 then c0 else if k = 1 then c1 else if k = 2 then c2 else c3, fun k => if k = 7 then e7 else e8, rfl, ?_, ?_, ?_⟩
  · intro j
    unfold m_romC
    by_cases j0 : j = 0
    · subst j0
      refine Or.inl ⟨4, m_SX, rfl, by decide, ?_, hT0⟩
      obtain ⟨cell, y1, -⟩ := hT0
      exact (Array.getElem?_eq_some_iff.mp y1).1
    · by_cases j1 : j = 1
      · subst j1
        refine Or.inl ⟨4, m_SY, rfl, by decide, ?_, hT1⟩
        obtain ⟨cell, y1, -⟩ := hT1
        exact (Array.getElem?_eq_some_iff.mp y1).1
      · by_cases j2 : j = 2
        · subst j2
          obtain ⟨scr, y1, y2, y3, y4, y5⟩ := hX
          exact Or.inl ⟨L, xs, rfl, by omega, hbl, scr, y1, y2, y3, by omega, by rw [y4], y5, hA b hbl⟩
        · right
          rw [if_neg j0, if_neg j1, if_neg j2]
  · intro j hj
    match j, hj with
    | 0, _ => exact va_Zof hlsX hini ht0 hA
    | 1, _ => exact va_Zof hlsY hini ht1 hA
  · intro args s hW ho
    have hal := hW.alike
    have hwt : ∀ w ∈ m_tb, w.before args s = true := fun w hw => word_at hW (m_tb_in hw).2 (htb w hw)
    have hf7 : s.vm.findClass (m_R 7) = some e7 := by rw [hal.findClass]; exact fe7
    have hf8 : s.vm.findClass (m_R 8) = some e8 := by rw [hal.findClass]; exact fe8
    refine ⟨va_K.moved hal ⟨fun k q hq => (hcl k).choose_spec.choose_spec q hq, fun k q hq => ?_⟩, hwt, over_moved hal hov, ?_, ?_, ?_, ?_, ?_⟩
    · match k, hq with
      | 0, hq => cases hq; exact ⟨fun n z => ⟨fun k h => (by cases h), k0, g0, p0, d0⟩, f0⟩
      | 1, hq => cases hq; exact ⟨fun n z => ⟨fun k h => (by cases h), k1, g1, p1, d1⟩, f1⟩
      | 2, hq => cases hq; exact ⟨fun n z => ⟨fun k h => (by cases h), k2, g2, p2, d2⟩, f2⟩
      | 3, hq => cases hq; exact ⟨fun n z => ⟨fun k h => (by cases h), k3, g3, p3, d3⟩, f3⟩
      | k + 4, hq => simp [m_at0] at hq
    · intro q hq
      simp only [List.mem_cons, List.not_mem_nil, or_false] at hq
      rcases hq with rfl | rfl
      · exact (va_Nw.warmF hW (va_Nw.of rfl (hts _ (m_in3 _ (by simp))))).use rfl
      · exact (va_Nw.warmF hW (va_Nw.of rfl (hts _ (m_in3 _ (by simp))))).use rfl
    · intro ci ic hci a ha
      have hok : m_okA a = true := by
        rcases hci with ⟨rfl, rfl⟩ | ⟨rfl, rfl⟩
        · exact List.all_eq_true.mp m_okA7 a ha
        · exact List.all_eq_true.mp m_okA8 a ha
      simp only [m_okA, Bool.or_eq_true, Bool.and_eq_true, decide_eq_true_eq] at hok
      rcases hok with q | ⟨q1, q2, q3⟩ | ⟨q1, q2⟩ | q
      · exact hwt a q
      · exact m_face hW q2 q3 (hts a q1)
      · have h0 := hts a q2
        unfold m_isLS at q1
        split at q1
        · exact m_laysStatic_moved hal ho h0
        · cases q1
      · simp only [List.mem_cons, List.not_mem_nil, or_false] at q
        have key : ∀ C n d : String, (Cond.laysStatic C n d).before #[Value.ref b] s0 = true → (Cond.isRef (.static C n d)).before #[Value.ref b] s0 = true → (Cond.isRef (.static C n d)).before args s = true := by
          intro C n d hl hi
          cases hv : (Term.static C n d).eval #[Value.ref b] s0 none [] s0 with
          | none => simp [Cond.before, Cond.holds, Cond.value, hv] at hi
          | some w =>
            have hv2 := m_static_moved (args' := args) hal ho hl hv
            simp only [Cond.before, Cond.holds, Cond.value, hv] at hi
            simp only [Cond.before, Cond.holds, Cond.value, hv2]
            exact hi
        rcases q with rfl | rfl
        · exact key _ _ _ (hts _ (m_in3 _ (by simp))) (hn _ (m_nar _ (by simp)))
        · exact key _ _ _ (hts _ (m_in3 _ (by simp))) (hn _ (m_nar _ (by simp)))
    · intro ci hci
      rcases hci with rfl | rfl
      · exact hf7
      · exact hf8
    · intro k v hk
      have hm := m_txs_all _ (m_lookup_mem hk)
      have hm2 : k ∈ m_txs.map Prod.fst := by simpa using hm
      obtain ⟨q, hq, e⟩ := List.mem_map.mp hm2
      subst e
      have hs0 := hts _ (m_txs_in q hq)
      have hcur : ∃ cur, s0.vm.findClass "EscapeCells" = some cur := by
        have h1 := hs0
        simp only [Cond.before, Cond.holds, Cond.value] at h1
        cases hc : s0.vm.findClass "EscapeCells" with
        | none => simp [hc] at h1
        | some cur => exact ⟨cur, rfl⟩
      obtain ⟨cur, hcur⟩ := hcur
      obtain ⟨kk, cf, i, a, -, -, -, -, -, hev⟩ := Cond.stringRef_spec hcur hs0
      exact ⟨q.2, a, (vk_R.of hs0 hev).warm hW⟩
    · have h77 : s.vm.assignable e7 e7 = true := by
        obtain ⟨x1, x2, y1, y2, y3⟩ := Cond.castable_spec (m_face (a' := args) hW rfl rfl (hts _ (m_in3 _ (by simp : Cond.castable (m_R 7) (m_R 7) ∈ _))))
        cases hf7.symm.trans y1
        cases hf7.symm.trans y2
        exact y3
      have h88 : s.vm.assignable e8 e8 = true := by
        obtain ⟨x1, x2, y1, y2, y3⟩ := Cond.castable_spec (m_face (a' := args) hW rfl rfl (hts _ (m_in3 _ (by simp : Cond.castable (m_R 8) (m_R 8) ∈ _))))
        cases hf8.symm.trans y1
        cases hf8.symm.trans y2
        exact y3
      have h78 : s.vm.assignable e7 e8 = false := by
        rw [hal.assignable]; exact m_ncast fe7 fe8 (hn _ (m_nar _ (by simp)))
      have h87 : s.vm.assignable e8 e7 = false := by
        rw [hal.assignable]; exact m_ncast fe8 fe7 (hn _ (m_nar _ (by simp)))
      intro ci cj hci hcj
      rcases hci with rfl | rfl <;> rcases hcj with rfl | rfl
      · exact h77
      · exact h78
      · exact h87
      · exact h88
