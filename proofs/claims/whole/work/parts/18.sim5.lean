theorem m_rel_pushG {s0 : State} {rom : Nat → Nat} {romC : Nat → mC} {D : va_G} {cA eC : Nat → ClassId} {h : mH} {H H1 : Heap} (R : m_Rel s0 rom romC D cA eC h H) {n k : Nat} (hb : h.2.1 + 1 + n ≤ 2000000) (hn : n ≤ 1000000) (hk : k ≤ 1000000) (hz : H1.size = H.size + 1 + n) (ho : ∀ q, q < H.size → H1[q]? = H[q]?)
    (h0 : H1[H.size]? = some (arrV (cA 3) n (fun j => .ref (H.size + 1 + j)))) (h1 : ∀ j, j < n → H1[H.size + 1 + j]? = some (arrV (cA 0) k (fun _ => .int 0))) : m_Rel s0 rom romC D cA eC (m_pushG h n k) H1 := by
  obtain ⟨r1, r2, r3, r4, r5, r6⟩ := R
  have hs : m_sB = 1000000000 := rfl
  refine ⟨by show H1.size = s0.heap.size + (h.2.1 + 1 + n); omega, hb, fun j hj => ?_, fun j g1 g2 => ?_, fun j => ?_, fun q hq => ?_⟩
  · have hj' : j < h.2.1 + 1 + n := hj
    show m_rel1 _ _ _ _ (if j = h.2.1 then mG n (fun i => h.2.1 + 1 + i) else if h.2.1 < j ∧ j < h.2.1 + 1 + n then mI k (fun _ => 0) else h.1 j) _ _
    by_cases q : j = h.2.1
    · rw [if_pos q, q, ← r1]
      refine ⟨hn, ?_⟩
      rw [h0]
      congr 1
      unfold arrV
      congr 1
      congr 1
      funext x
      have hx := x.isLt
      show Value.ref (H.size + 1 + x.val) = Value.ref (m_ad s0.heap.size rom (h.2.1 + 1 + x.val))
      have hh : m_ad s0.heap.size rom (h.2.1 + 1 + x.val) = H.size + 1 + x.val := by
        rw [m_ad_lt (by omega), r1]; omega
      rw [hh]
    · rw [if_neg q]
      by_cases q2 : h.2.1 < j ∧ j < h.2.1 + 1 + n
      · rw [if_pos q2]
        refine ⟨⟨Or.inl rfl, hk⟩, ?_⟩
        have := h1 (j - h.2.1 - 1) (by omega)
        rw [show H.size + 1 + (j - h.2.1 - 1) = s0.heap.size + j by omega] at this
        exact this
      · rw [if_neg q2]; exact m_rel1_kept (r3 j (by omega)) (ho _ (by omega))
  · have g1' : h.2.1 + 1 + n ≤ j := g1
    show (if j = h.2.1 then mG n (fun i => h.2.1 + 1 + i) else if h.2.1 < j ∧ j < h.2.1 + 1 + n then mI k (fun _ => 0) else h.1 j) = _
    rw [if_neg (by omega), if_neg (by omega)]; exact r4 j (by omega) g2
  · show (if _ = h.2.1 then mG n (fun i => h.2.1 + 1 + i) else if h.2.1 < _ ∧ _ < h.2.1 + 1 + n then mI k (fun _ => 0) else h.1 _) = _
    rw [if_neg (by omega), if_neg (by omega)]; exact r5 j
  · rw [ho q (by omega)]; exact r6 q hq
set_option maxRecDepth 100000 in
theorem m_ma_in : [Cond.classLink (m_R 0) 54 "[[I", Cond.classLink (m_R 1) 21 "[[I"].all (fun w => decide (w ∈ m_tb)) = true := by decide +kernel
theorem m_ma_ok {o ix : Nat} (h : m_ma o ix = true) : Cond.classLink (m_R o) ix "[[I" ∈ m_tb := by
  have hq := List.all_eq_true.mp m_ma_in
  match o, h with
  | 0, h =>
    have : ix = 54 := by simpa [m_ma, m_mas] using h
    subst this
    exact of_decide_eq_true (hq _ (by simp))
  | 1, h =>
    have : ix = 21 := by simpa [m_ma, m_mas] using h
    subst this
    exact of_decide_eq_true (hq _ (by simp))
  | n + 2, h =>
    exfalso
    have : m_mas.getD (n + 2) [] = [] := by
      match n with
      | 0 => rfl
      | 1 => rfl
      | 2 => rfl
      | 3 => rfl
      | 4 => rfl
      | 5 => rfl
      | 6 => rfl
      | 7 => rfl
      | 8 => rfl
      | k + 9 => simp [m_mas]
    unfold m_ma at h
    rw [this] at h
    simp at h
theorem m_outer (c : ClassId) (N h0 : Nat) : ∀ i : Nat, Jvm.Free.Multi.outerC c N h0 i = arrV c N (fun j => if j < i then .ref (h0 + 1 + j) else .null)
  | 0 => by
    show ({ cls := c, slots := Array.replicate N .null, vm := .none } : Cell) = _
    rw [arrV_new]
    exact congrArg (arrV c N) (funext fun j => by simp)
  | i + 1 => by
    show (Jvm.Free.Multi.outerC c N h0 i).setSlot i (.ref (h0 + 1 + i)) = _
    rw [m_outer c N h0 i, arrV_store]
    refine congrArg (arrV c N) (funext fun j => ?_)
    by_cases q : j = i
    · subst q; simp [updV]
    · by_cases h : j < i
      · simp [updV, q, h, Nat.lt_succ_of_lt h]
      · simp [updV, q, h, show ¬ j < i + 1 by omega]
section SIM
variable {p : Program} {l : Launch} {e : Env} {R : Room} {s0 s : State} {m : MethodId} {args : Array Value} {below : List Frame} {meth : Method} {c : Code} {H : Heap} {locs : List Loc} {cells slots : Nat} {Q : State → Prop} {ls : Array Slot}
variable {rom : Nat → Nat} {romC : Nat → mC} {D : va_G} {cA eC : Nat → ClassId} {y pc len tgt pc' : Nat} {i : Instr} {L L' : mL} {S S' : List Value} {h h' : mH}
set_option maxHeartbeats 4000000 in
theorem m_simM (C : m_Fr p s0 s m args meth c y) (hK : va_K D m_cls (m_at0 cA) s) (hov : (Cond.arrayOver (.array .int)).before args s = true) (hr : m_romOk s0 rom romC) (hR : m_Rel s0 rom romC D cA eC h H) (hl : m_Loc (m_ad s0.heap.size rom) ls (m_ml y) L) (hF : R.frames = m_nf y) (hLo : R.locals = m_nw y)
    (h1 : m_at y pc = some (i, len, tgt)) (h2 : m_more y pc i len L S h = some (pc', L', S', h')) (hC : cells + h'.2.1 ≤ R.cells + h.2.1) (hSl : slots + h'.2.2 ≤ R.slots + h.2.2) (hB : h'.2.1 ≤ 2000000) (hlo : ∀ q ∈ locs, s0.heap.size ≤ q.base)
    (k : ∀ (H' : Heap) (locs' : List Loc) (ls' : Array Slot) (cells' slots' : Nat), m_Rel s0 rom romC D cA eC h' H' → m_Loc (m_ad s0.heap.size rom) ls' (m_ml y) L' → (∀ q ∈ locs', s0.heap.size ≤ q.base) → cells' + h.2.1 = cells + h'.2.1 → slots' + h.2.2 = slots + h'.2.2 →
      W p l e R s m args below meth c H' locs' cells' slots' Q (F0 m pc' ls' (S'.map (m_cv (m_ad s0.heap.size rom))))) :
    W p l e R s m args below meth c H locs cells slots Q (F0 m pc ls (S.map (m_cv (m_ad s0.heap.size rom)))) := by
  obtain ⟨hx, hb, hml, hown, hW, hts, hnm, hrt, hlk, hex, hy⟩ := C
  obtain ⟨hdg, hck⟩ := m_at_ok hy h1
  simp only [m_ck2, Bool.and_eq_true, Bool.or_eq_true, decide_eq_true_eq] at hck
  obtain ⟨hlen, htg, hst⟩ := hck
  have hz : H.size = s0.heap.size + h.2.1 := hR.1
  have hs : m_sB = 1000000000 := rfl
  have hR2 : h.2.1 ≤ 2000000 := hR.2.1
  unfold m_more at h2
  split at h2
  · -- newarray
    rename_i t
    split at h2
    · rename_i n S1
      split at h2
      · rename_i cell e1
        by_cases hn : ¬ n < 0 ∧ n.toNatClampNeg ≤ 1000000
        · rw [m_if_t hn] at h2
          simp only [Option.some.injEq, Prod.mk.injEq] at h2
          obtain ⟨rfl, rfl, rfl, rfl⟩ := h2
          have e0 : len = 2 := by simp [m_len] at hlen; exact hlen.symm
          subst e0
          have hC' : cells + (h.2.1 + 1) ≤ R.cells + h.2.1 := hC
          have hS' : slots + (h.2.2 + n.toNatClampNeg) ≤ R.slots + h.2.2 := hSl
          have hB' : h.2.1 + 1 ≤ 2000000 := hB
          have e9 : Value.ref H.size :: S1.map (m_cv (m_ad s0.heap.size rom)) = (Value.ref h.2.1 :: S1).map (m_cv (m_ad s0.heap.size rom)) := by
            rw [List.map_cons]
            show _ = Value.ref (m_ad _ _ _) :: _
            rw [m_ad_lt (by omega), hz]
          have fin : ∀ (H' : Heap), m_rel1 D cA eC (m_ad s0.heap.size rom) cell H.size H' → H'.size = H.size + 1 → (∀ q, q < H.size → H'[q]? = H[q]?) → W p l e R s m args below meth c H' locs (cells + 1) (slots + n.toNatClampNeg) Q (F0 m (pc + 2) ls (Value.ref H.size :: S1.map (m_cv (m_ad s0.heap.size rom)))) := by
            intro H' t1 t2 t3
            rw [e9]
            exact k H' locs ls _ _ (m_rel_push hR hB' (by rw [← hz]; exact t1) t2 t3) hl hlo (by show cells + 1 + h.2.1 = cells + (h.2.1 + 1); omega) (by show slots + n.toNatClampNeg + h.2.2 = slots + (h.2.2 + n.toNatClampNeg); omega)
          unfold m_arr at e1
          split at e1
          · cases e1
            refine va_newaK hx hb (hts _ (m_one_in _ (by simp [newarray.typeOf]))) rfl hdg rfl hn.1 rfl (by simp [newarray.typeOf, componentBytes]; omega) (by omega) (by omega) rfl (fun H' cA' t1 t2 t3 t4 t5 => ?_)
            have ec : cA' = cA 0 := Option.some.inj (t5.symm.trans (hK.2 0 _ rfl).2)
            subst ec
            exact fin H' ⟨⟨Or.inl rfl, hn.2⟩, t1⟩ t2 t3
          · cases e1
            refine va_newaK hx hb (hts _ (m_one_in _ (by simp [newarray.typeOf]))) rfl hdg rfl hn.1 rfl (by simp [newarray.typeOf, componentBytes]; omega) (by omega) (by omega) rfl (fun H' cA' t1 t2 t3 t4 t5 => ?_)
            have ec : cA' = cA 1 := Option.some.inj (t5.symm.trans (hK.2 1 _ rfl).2)
            subst ec
            exact fin H' ⟨⟨Or.inr rfl, hn.2⟩, t1⟩ t2 t3
          · cases e1
            refine va_newaK hx hb (hts _ (m_one_in _ (by simp [newarray.typeOf]))) rfl hdg rfl hn.1 rfl (by simp [newarray.typeOf, componentBytes]; omega) (by omega) (by omega) rfl (fun H' cA' t1 t2 t3 t4 t5 => ?_)
            have ec : cA' = cA 2 := Option.some.inj (t5.symm.trans (hK.2 2 _ rfl).2)
            subst ec
            exact fin H' ⟨hn.2, t1⟩ t2 t3
          · cases e1
        · rw [m_if_f hn] at h2; cases h2
      · cases h2
    · cases h2
  · -- multianewarray
    rename_i ix
    split at h2
    · rename_i kk n S1 e1
      by_cases hn : (¬ kk < 0 ∧ kk.toNatClampNeg ≤ 1000000) ∧ (¬ n < 0 ∧ n.toNatClampNeg ≤ 1000000)
      · rw [m_if_t hn] at h2
        simp only [Option.some.injEq, Prod.mk.injEq] at h2
        obtain ⟨rfl, rfl, rfl, rfl⟩ := h2
        have e0 : len = 4 := by simp [m_len] at hlen; exact hlen.symm
        subst e0
        have hC' : cells + (h.2.1 + 1 + n.toNatClampNeg) ≤ R.cells + h.2.1 := hC
        have hS' : slots + (h.2.2 + (n.toNatClampNeg + n.toNatClampNeg * kk.toNatClampNeg)) ≤ R.slots + h.2.2 := hSl
        have hB' : h.2.1 + 1 + n.toNatClampNeg ≤ 2000000 := hB
        intro T hT Xs
        obtain ⟨vm₁, cA', comp, -, fA, fC, hO, -, X', step⟩ := Xs.multianewarray2F (ty := .int) hx hown (hts _ (m_ma_ok e1)) hov (hts _ (m_one_in _ (by simp))) (g := F0 m pc ls (.int kk :: .int n :: S1.map (m_cv (m_ad s0.heap.size rom)))) rfl (by rw [hb]; exact hdg) rfl hn.2.1 hn.1.1 (by omega) (by simp [componentBytes]; omega) (by omega) rfl rfl (by omega) (by omega)
        have ec3 : cA' = cA 3 := Option.some.inj (fA.symm.trans (hK.2 3 _ rfl).2)
        have ec0 : comp = cA 0 := Option.some.inj (fC.symm.trans (hK.2 0 _ rfl).2)
        subst ec3
        subst ec0
        obtain ⟨f1, f2, -, -⟩ := Jvm.Free.Multi.fill_facts (T.setVm vm₁) (cA 3) (cA 0) n.toNatClampNeg kk.toNatClampNeg (defaultValue .int) n.toNatClampNeg
        have hold : ∀ x : Nat, x < H.size → (Jvm.Free.Multi.fill (T.setVm vm₁) (cA 3) (cA 0) n.toNatClampNeg kk.toNatClampNeg (defaultValue .int) n.toNatClampNeg).heap[x]? = H[x]? := fun x hx => by
          have := Jvm.Free.Multi.fill_old (T.setVm vm₁) (cA 3) (cA 0) n.toNatClampNeg kk.toNatClampNeg (defaultValue .int) (a := x) (by show x < T.heap.size; rw [hT]; exact hx) n.toNatClampNeg
          rw [this]
          show T.heap[x]? = _
          rw [hT]
        have hrow : ∀ j : Nat, j < n.toNatClampNeg → (Jvm.Free.Multi.fill (T.setVm vm₁) (cA 3) (cA 0) n.toNatClampNeg kk.toNatClampNeg (defaultValue .int) n.toNatClampNeg).heap[H.size + 1 + j]? = some (arrV (cA 0) kk.toNatClampNeg (fun _ => .int 0)) := fun j hj => by
          have := Jvm.Free.Multi.fill_inner (T.setVm vm₁) (cA 3) (cA 0) n.toNatClampNeg kk.toNatClampNeg (defaultValue .int) n.toNatClampNeg j hj
          rw [show (T.setVm vm₁).heap.size = H.size by show T.heap.size = _; rw [hT]] at this
          rw [this, ← arrV_new]
          rfl
        have hTs : (T.setVm vm₁).heap.size = H.size := by show T.heap.size = _; rw [hT]
        rw [hTs] at f1 f2
        have e9 : (Value.ref T.heap.size :: S1.map (m_cv (m_ad s0.heap.size rom))) = (Value.ref h.2.1 :: S1).map (m_cv (m_ad s0.heap.size rom)) := by
          rw [List.map_cons, hT]
          show _ = Value.ref (m_ad _ _ _) :: _
          rw [m_ad_lt (by omega), hz]
        have fin := k (Jvm.Free.Multi.fill (T.setVm vm₁) (cA 3) (cA 0) n.toNatClampNeg kk.toNatClampNeg (defaultValue .int) n.toNatClampNeg).heap locs ls (cells + 1 + n.toNatClampNeg) (slots + n.toNatClampNeg + n.toNatClampNeg * kk.toNatClampNeg)
          (m_rel_pushG hR hB' hn.2.2 hn.1.2 (by rw [f1]) hold (by rw [f2, m_outer]; congr 1; unfold arrV; congr 1; congr 1; funext x; exact if_pos x.isLt) hrow) hl hlo
          (by show cells + 1 + n.toNatClampNeg + h.2.1 = cells + (h.2.1 + 1 + n.toNatClampNeg); omega) (by show slots + n.toNatClampNeg + n.toNatClampNeg * kk.toNatClampNeg + h.2.2 = slots + (h.2.2 + (n.toNatClampNeg + n.toNatClampNeg * kk.toNatClampNeg)); omega)
        rw [← e9] at fin
        obtain ⟨t, a1, b1⟩ := fin _ rfl X'
        exact ⟨t, step t a1, b1⟩
      · rw [m_if_f hn] at h2; cases h2
    · cases h2
  · -- idiv
    split at h2
    · rename_i z x S1
      by_cases hn : ¬ z = 0
      · rw [m_if_t hn] at h2
        simp only [Option.some.injEq, Prod.mk.injEq] at h2
        obtain ⟨rfl, rfl, rfl, rfl⟩ := h2
        have e0 : len = 1 := by simp [m_len] at hlen; exact hlen.symm
        subst e0
        exact lv_idiv hx hb hdg hn (k H locs ls _ _ hR hl hlo rfl rfl)
      · rw [m_if_f hn] at h2; cases h2
    · cases h2
  · split at h2
    · rename_i z x S1
      by_cases hn : ¬ z = 0
      · rw [m_if_t hn] at h2
        simp only [Option.some.injEq, Prod.mk.injEq] at h2
        obtain ⟨rfl, rfl, rfl, rfl⟩ := h2
        have e0 : len = 1 := by simp [m_len] at hlen; exact hlen.symm
        subst e0
        exact lv_irem hx hb hdg hn (k H locs ls _ _ hR hl hlo rfl rfl)
      · rw [m_if_f hn] at h2; cases h2
    · cases h2
  · -- tableswitch
    rename_i d lo hi offs
    split at h2
    · rename_i x S1
      split at h2
      · rename_i t e1
        simp only [Option.some.injEq, Prod.mk.injEq] at h2
        obtain ⟨rfl, rfl, rfl, rfl⟩ := h2
        unfold m_sw at e1
        split at e1
        · rename_i hq
          have e2 : (pc : Int) + d = (t : Int) := Option.some.inj e1
          exact lv_tableOut hx hb hdg hq e2 (k H locs ls _ _ hR hl hlo rfl rfl)
        · rename_i hq
          rw [Option.map_eq_some_iff] at e1
          obtain ⟨o, e3, e4⟩ := e1
          have e2 : (pc : Int) + o = (t : Int) := e4
          exact lv_tableIn hx hb hdg (fun q => hq (Or.inl q)) (fun q => hq (Or.inr q)) e3 e2 (k H locs ls _ _ hR hl hlo rfl rfl)
      · cases h2
    · cases h2
  · -- arraycopy
    rename_i ix
    split at h2
    · rename_i n dp b sp a S1 e1
      split at h2
      · rename_i n0 f n1 g ea eb
        by_cases hn : ((¬ sp < 0 ∧ ¬ dp < 0) ∧ (¬ n < 0 ∧ a < m_sB)) ∧ ((sp.toNatClampNeg + n.toNatClampNeg ≤ n0 ∧ dp.toNatClampNeg + n.toNatClampNeg ≤ n1) ∧ (b < m_sB ∧ (1 ≤ m_nf y ∧ m_words S1 + 18 ≤ m_nw y)))
        · rw [m_if_t hn] at h2
          simp only [Option.some.injEq, Prod.mk.injEq] at h2
          obtain ⟨rfl, rfl, rfl, rfl⟩ := h2
          have e0 : len = 3 := by simp [m_len] at hlen; exact hlen.symm
          subst e0
          obtain ⟨⟨⟨q1, q2⟩, q3, q4⟩, ⟨q5, q6⟩, q7, q8, q9⟩ := hn
          obtain ⟨ha, ha2, hra⟩ := m_own hR hr (a := a) (by rw [ea]; intro q; cases q) (fun n f => Or.inr q4)
          obtain ⟨hb1, hb2, hrb⟩ := m_own hR hr (a := b) (by rw [eb]; intro q; cases q) (fun n f => Or.inr q7)
          rw [ea] at hra
          rw [eb] at hrb
          obtain ⟨hra1, hra2⟩ := hra
          obtain ⟨hrb1, hrb2⟩ := hrb
          rw [← m_ad_lt (rom := rom) ha2] at hra2
          rw [← m_ad_lt (rom := rom) hb2] at hrb2
          have h3 := m_pr_ok e1
          simp only [m_ckP, decide_eq_true_eq] at h3
          have nn : ∀ z : Int32, ¬ z < 0 → z.toInt = (z.toNatClampNeg : Int) := by
            intro z hz
            have hz0 : (0 : Int) ≤ z.toInt := by
              have := Int32.not_lt.mp hz
              simpa using Int32.le_iff_toInt_le.mp this
            show z.toInt = ((z.toInt.toNat : Nat) : Int)
            omega
          intro T hT X
          obtain ⟨-, k0, hk0, cm0, hkk0⟩ := (hK.2 0 _ rfl).1 n0 (fun j => .int (f j))
          obtain ⟨-, k1, hk1, cm1, hkk1⟩ := (hK.2 0 _ rfl).1 n1 (fun j => .int (g j))
          obtain ⟨vm', X', step⟩ := X.arraycopy hx hown (hts _ h3) (hts _ (m_one_in _ (by simp))) (hts _ (m_one_in _ (by simp))) (hts _ (m_one_in _ (by simp))) (src := m_ad s0.heap.size rom a) (dst := m_ad s0.heap.size rom b) (cs := arrV (cA 0) n0 (fun j => .int (f j))) (cd := arrV (cA 0) n1 (fun j => .int (g j))) (srcPos := sp) (destPos := dp) (n := n) (by rw [hT]; exact hra2) (by rw [hT]; exact hrb2)
            (fun _ h => by cases h) (fun _ h => by cases h) (fun h => by cases h) (fun h => by cases h) hk0 hk1 hkk0 hkk1 (by simp [refKind]) q1 q2 q3
            (by rw [nn sp q1, nn n q3, arrV_size]; omega)
            (by rw [nn dp q2, nn n q3, arrV_size]; omega)
            (fun vm₁ _ i hi => by
              have e : (arrV (cA 0) n0 (fun j => .int (f j))).slots.getD (sp.toNatClampNeg + i) .null = .int (f (sp.toNatClampNeg + i)) := by
                rw [Array.getD_eq_getD_getElem?, arrV_read _ _ (by omega)]
                rfl
              rw [e]
              exact ⟨rfl, trivial⟩)
            (g := F0 m pc ls (.int n :: .int dp :: .ref (m_ad s0.heap.size rom b) :: .int sp :: .ref (m_ad s0.heap.size rom a) :: S1.map (m_cv (m_ad s0.heap.size rom)))) rfl (by rw [hml]; exact hl.1.1) (rest := S1.map (m_cv (m_ad s0.heap.size rom))) rfl (by rw [hb]; exact hdg) (by rw [hF]; exact q8)
            (by show 2 * 0 + _ + _ ≤ _; rw [m_cv_words, hLo]; have : nativeFrameWords "java/lang/System" "arraycopy" 5 = 7 := by decide
                omega)
          have e2 : copied (arrV (cA 0) n0 (fun j => .int (f j))) (arrV (cA 0) n1 (fun j => .int (g j))) sp dp n = arrV (cA 0) n1 (fun j => .int (va_cpy f g sp.toNatClampNeg dp.toNatClampNeg n.toNatClampNeg j)) := va_copied (fun z => .int z) (cA 0) (cA 0) f g q5
          rw [e2] at X' step
          have hlb : m_ad s0.heap.size rom b < H.size := (Array.getElem?_eq_some_iff.mp hrb2).1
          have fin := k (H.setIfInBounds (m_ad s0.heap.size rom b) (arrV (cA 0) n1 (fun j => .int (va_cpy f g sp.toNatClampNeg dp.toNatClampNeg n.toNatClampNeg j)))) (locs ++ ((arrV (cA 0) n0 (fun j => .int (f j))).stretch sp.toNatClampNeg n.toNatClampNeg).zipIdx.map fun q => ⟨m_ad s0.heap.size rom b, dp.toNatClampNeg + q.2⟩) ls cells slots
            (m_rel_set hR hb1 ⟨hrb1, by rw [← m_ad_lt (rom := rom) hb2]; simp [Array.getElem?_setIfInBounds, hlb]⟩ (by simp) (fun q hq => by rw [m_ad_lt hb2]; simp [Array.getElem?_setIfInBounds, Ne.symm hq])) hl
            (fun q hq => by
              rcases List.mem_append.mp hq with hq | hq
              · exact hlo q hq
              · obtain ⟨z, -, hz⟩ := List.mem_map.mp hq
                have e5 : q.base = m_ad s0.heap.size rom b := by rw [← hz]
                rw [e5, m_ad_lt hb2]; omega) rfl rfl
          obtain ⟨t, a1, b1⟩ := fin _ (by rw [← hT]; rfl) X'
          exact ⟨t, step t a1, b1⟩
        · rw [m_if_f hn] at h2; cases h2
      · cases h2
    · cases h2
  · cases h2
end SIM
