/-! THE MACHINE'S HEAP IN THE JVM'S: the k-th cell that is made lies at the address base + k -/
def m_ad (base : Nat) (rom : Nat → Nat) (k : Nat) : Nat := if k < m_sB then base + k else rom (k - m_sB)
def m_cv (ad : Nat → Nat) (v : Value) : Value := match v with
  | .ref k => .ref (ad k)
  | .int x => .int x
  | .long x => .long x
  | .float x => .float x
  | .double x => .double x
  | .null => .null
  | .retAddr x => .retAddr x
theorem m_cv_cat (ad : Nat → Nat) (v : Value) : (m_cv ad v).category = v.category := by cases v <;> rfl
theorem m_cv_words (ad : Nat → Nat) (S : List Value) : ((S.map (m_cv ad)).map fun v => v.category).sum = m_words S := by
  unfold m_words
  rw [List.map_map]
  congr 1
  exact List.map_congr_left fun v _ => m_cv_cat ad v
def m_at0 (cA : Nat → ClassId) : List (ClassId × FieldType) := [(cA 0, .int), (cA 1, .boolean), (cA 2, .long), (cA 3, .array .int)]
/-- a cell of the machine at an address of the JVM's heap -/
def m_rel1 (D : va_G) (cA eC : Nat → ClassId) (ad : Nat → Nat) (c : mC) (q : Nat) (H : Heap) : Prop := match c with
  | .inl (t, n, f) => ((t = 0 ∨ t = 1) ∧ n ≤ 1000000) ∧ H[q]? = some (arrV (cA t) n (fun j => .int (f j)))
  | .inr (.inl (n, f)) => n ≤ 1000000 ∧ H[q]? = some (arrV (cA 2) n (fun j => .long (f j)))
  | .inr (.inr (.inl (n, f))) => n ≤ 1000000 ∧ H[q]? = some (arrV (cA 3) n (fun j => .ref (ad (f j))))
  | .inr (.inr (.inr (ci, fs))) => (∃ r : vw_C, m_cls[ci]? = some r ∧ fs.length = r.2.2 ∧ t_OB q (D.1 ci) r.2.2 (D.2 ci) H (vp_V (fs.map (m_cv ad)))) ∨
      ((ci = 7 ∨ ci = 8) ∧ fs = [] ∧ ∃ cell : Cell, H[q]? = some cell ∧ cell.cls = eC ci ∧ cell.vm = .none)
theorem m_rel1_kept {D : va_G} {cA eC : Nat → ClassId} {ad : Nat → Nat} {c : mC} {q : Nat} {H H1 : Heap} (h : m_rel1 D cA eC ad c q H) (e : H1[q]? = H[q]?) : m_rel1 D cA eC ad c q H1 := by
  rcases c with ⟨t, n, f⟩ | ⟨n, f⟩ | ⟨n, f⟩ | ⟨ci, fs⟩
  · exact ⟨h.1, e.trans h.2⟩
  · exact ⟨h.1, e.trans h.2⟩
  · exact ⟨h.1, e.trans h.2⟩
  · rcases h with ⟨r, h1, h2, h3⟩ | ⟨h1, h2, cell, h3, h4⟩
    · exact Or.inl ⟨r, h1, h2, h3.kept e⟩
    · exact Or.inr ⟨h1, h2, cell, e.trans h3, h4⟩
theorem m_rel1_no {D : va_G} {cA eC : Nat → ClassId} {ad : Nat → Nat} {q : Nat} {H : Heap} : ¬ m_rel1 D cA eC ad mNo q H := by
  rintro (⟨r, h1, -⟩ | ⟨h1, -⟩)
  · simp [m_cls] at h1
  · omega
/-- what was there before: arrays of ints, or nothing that the machine may look at -/
def m_romOk (s0 : State) (rom : Nat → Nat) (romC : Nat → mC) : Prop := ∀ j, (∃ (n : Nat) (f : Nat → Int32), romC j = mI n f ∧ n ≤ 1000000 ∧ rom j < s0.heap.size ∧ va_T .int (rom j) n (fun k => .int (f k)) (fun q => s0.heap.size ≤ q) s0 s0.heap) ∨ romC j = mNo
/-- THE RELATION -/
def m_Rel (s0 : State) (rom : Nat → Nat) (romC : Nat → mC) (D : va_G) (cA eC : Nat → ClassId) (h : mH) (H : Heap) : Prop :=
  H.size = s0.heap.size + h.2.1 ∧ h.2.1 ≤ 2000000 ∧ (∀ k, k < h.2.1 → m_rel1 D cA eC (m_ad s0.heap.size rom) (h.1 k) (s0.heap.size + k) H) ∧ (∀ k, h.2.1 ≤ k → k < m_sB → h.1 k = mNo) ∧
    (∀ j, h.1 (m_sB + j) = romC j) ∧ (∀ q, q < s0.heap.size → H[q]? = s0.heap[q]?)
section MR
variable {s0 : State} {rom : Nat → Nat} {romC : Nat → mC} {D : va_G} {cA eC : Nat → ClassId} {h : mH} {H H1 : Heap}
theorem m_ad_lt {base k : Nat} {rom : Nat → Nat} (hk : k < m_sB) : m_ad base rom k = base + k := if_pos hk
theorem m_ad_rom {base j : Nat} {rom : Nat → Nat} : m_ad base rom (m_sB + j) = rom j := by
  unfold m_ad
  rw [if_neg (by omega), Nat.add_sub_cancel_left]
/-- a cell that is no array of ints from before: it is one of the machine's own -/
theorem m_own (R : m_Rel s0 rom romC D cA eC h H) (hr : m_romOk s0 rom romC) {a : Nat} (hn : h.1 a ≠ mNo) (hi : ∀ n f, h.1 a ≠ mI n f ∨ a < m_sB) : a < h.2.1 ∧ a < m_sB ∧ m_rel1 D cA eC (m_ad s0.heap.size rom) (h.1 a) (s0.heap.size + a) H := by
  obtain ⟨r1, r2, r3, r4, r5, r6⟩ := R
  have hs : m_sB = 1000000000 := rfl
  rcases Nat.lt_or_ge a h.2.1 with q | q
  · exact ⟨q, by omega, r3 a q⟩
  · rcases Nat.lt_or_ge a m_sB with q2 | q2
    · exact absurd (r4 a q q2) hn
    · obtain ⟨j, rfl⟩ := Nat.exists_eq_add_of_le q2
      rcases hr j with ⟨n, f, e, -⟩ | e
      · rcases hi n f with q3 | q3
        · exact absurd ((r5 j).trans e) q3
        · omega
      · exact absurd ((r5 j).trans e) hn
theorem m_isObj (R : m_Rel s0 rom romC D cA eC h H) (hr : m_romOk s0 rom romC) {a ci : Nat} {fs : List Value} (e : h.1 a = mO ci fs) (hc : ci < 9) : a < h.2.1 ∧ a < m_sB ∧ m_rel1 D cA eC (m_ad s0.heap.size rom) (mO ci fs) (m_ad s0.heap.size rom a) H := by
  obtain ⟨h1, h2, h3⟩ := m_own R hr (a := a) (by rw [e]; intro q; simp at q; omega) (fun n f => Or.inl (by rw [e]; intro q; cases q))
  rw [m_ad_lt h2]
  exact ⟨h1, h2, e ▸ h3⟩
/-- an array of ints, be it the machine's own or one from before -/
theorem m_isInts (R : m_Rel s0 rom romC D cA eC h H) (hr : m_romOk s0 rom romC) {U : State} (hal : s0.vm.Alike U.vm) (hK : va_K D m_cls (m_at0 cA) U) {a n : Nat} {f : Nat → Int32} (e : h.1 a = mI n f) :
    ∃ cell : Cell, H[m_ad s0.heap.size rom a]? = some cell ∧ U.isArrayOf cell .int ∧ cell.vm ≠ .unknown ∧ (n ≤ cell.slots.size ∧ cell.slots.size.toInt32 = Int32.ofNat n) ∧ n ≤ 1000000 ∧ ∀ j, j < n → cell.slots[j]? = some (.int (f j)) := by
  rcases Nat.lt_or_ge a m_sB with q | q
  · obtain ⟨h1, h2, h3⟩ := m_own R hr (a := a) (by rw [e]; intro q; cases q) (fun _ _ => Or.inr q)
    rw [m_ad_lt h2]
    rw [e] at h3
    refine ⟨_, h3.2, (hK.2 0 _ rfl).1 n _, (fun q => by cases q), ⟨by rw [arrV_size]; exact Nat.le_refl _, by rw [arrV_size]⟩, h3.1.2, fun j hj => arrV_read _ _ hj⟩
  · obtain ⟨j, rfl⟩ := Nat.exists_eq_add_of_le q
    rw [m_ad_rom]
    obtain ⟨r1, r2, r3, r4, r5, r6⟩ := R
    rcases hr j with ⟨n', f', e', hn, hl, cell, x1, x2, x3, x4, x4b, x5, -⟩ | e'
    · have e2 : mI n f = mI n' f' := e.symm.trans ((r5 j).trans e')
      simp only [Sum.inl.injEq, Prod.mk.injEq, true_and] at e2
      obtain ⟨rfl, rfl⟩ := e2
      exact ⟨cell, (r6 _ hl).trans x1, State.isArrayOf_alike hal x2, x3, ⟨x4, x4b⟩, hn, x5⟩
    · have e2 := e.symm.trans ((r5 j).trans e')
      cases e2
theorem m_rel_set (R : m_Rel s0 rom romC D cA eC h H) {a : Nat} {c : mC} (ha : a < h.2.1) (hc : m_rel1 D cA eC (m_ad s0.heap.size rom) c (s0.heap.size + a) H1) (hz : H1.size = H.size) (ho : ∀ q, q ≠ s0.heap.size + a → H1[q]? = H[q]?) : m_Rel s0 rom romC D cA eC (m_set h a c) H1 := by
  obtain ⟨r1, r2, r3, r4, r5, r6⟩ := R
  have hs : m_sB = 1000000000 := rfl
  refine ⟨hz.trans r1, r2, fun k hk => ?_, fun k h1 h2 => ?_, fun j => ?_, fun q hq => ?_⟩
  · show m_rel1 _ _ _ _ (if k = a then c else h.1 k) _ _
    by_cases q : k = a
    · rw [if_pos q, q]; exact hc
    · rw [if_neg q]; exact m_rel1_kept (r3 k hk) (ho _ (by omega))
  · show (if k = a then c else h.1 k) = _
    have h1' : h.2.1 ≤ k := h1
    rw [if_neg (by omega)]; exact r4 k h1 h2
  · show (if _ = a then c else h.1 _) = _
    rw [if_neg (by omega)]; exact r5 j
  · rw [ho q (by omega)]; exact r6 q hq
theorem m_rel_push (R : m_Rel s0 rom romC D cA eC h H) {c : mC} {n : Nat} (hb : h.2.1 + 1 ≤ 2000000) (hc : m_rel1 D cA eC (m_ad s0.heap.size rom) c (s0.heap.size + h.2.1) H1) (hz : H1.size = H.size + 1) (ho : ∀ q, q < H.size → H1[q]? = H[q]?) : m_Rel s0 rom romC D cA eC (m_push h c n) H1 := by
  obtain ⟨r1, r2, r3, r4, r5, r6⟩ := R
  have hs : m_sB = 1000000000 := rfl
  refine ⟨by show H1.size = s0.heap.size + (h.2.1 + 1); omega, hb, fun k hk => ?_, fun k h1 h2 => ?_, fun j => ?_, fun q hq => ?_⟩
  · show m_rel1 _ _ _ _ (if k = h.2.1 then c else h.1 k) _ _
    have hk' : k < h.2.1 + 1 := hk
    by_cases q : k = h.2.1
    · rw [if_pos q, q]; exact hc
    · rw [if_neg q]; exact m_rel1_kept (r3 k (by omega)) (ho _ (by omega))
  · show (if k = h.2.1 then c else h.1 k) = _
    have h1' : h.2.1 + 1 ≤ k := h1
    rw [if_neg (by omega)]; exact r4 k (by omega) h2
  · show (if _ = h.2.1 then c else h.1 _) = _
    rw [if_neg (by omega)]; exact r5 j
  · rw [ho q (by omega)]; exact r6 q hq
end MR
