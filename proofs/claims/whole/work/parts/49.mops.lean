/-! the reference's calls that change the storey and its people -/
section
variable {F : Fx} {C : Ct} {J : Nat → Int64} {G : Ex} {Q : mE → mH → Prop}
theorem inC_yes (hF : okF F) {i j : Nat} (hi : i < F.1) (hj : j < F.2.1) : (0 ≤ nI i ∧ nI i < nI F.1) ∧ (0 ≤ nI j ∧ nI j < nI F.2.1) := by
  obtain ⟨⟨f1, f2⟩, ⟨f3, f4⟩, -⟩ := hF
  exact ⟨⟨nI_pos' (by omega), nI_lt hi (by omega)⟩, nI_pos' (by omega), nI_lt hj (by omega)⟩
theorem inC_no {x z : Int32} (h : x < 0 ∨ nI F.1 ≤ x ∨ z < 0 ∨ nI F.2.1 ≤ z) : ¬ ((0 ≤ x ∧ x < nI F.1) ∧ (0 ≤ z ∧ z < nI F.2.1)) := by
  rintro ⟨⟨a1, a2⟩, a3, a4⟩
  rcases h with h | h | h | h
  · exact Int32.not_lt.mpr a1 h
  · exact Int32.not_lt.mpr h a2
  · exact Int32.not_lt.mpr a3 h
  · exact Int32.not_lt.mpr h a4
theorem m576 (hF : okF F) {i j : Nat} (hi : i < F.1) (hj : j < F.2.1) : 24 * j + i < 576 := by
  obtain ⟨⟨f1, f2⟩, ⟨f3, f4⟩, -⟩ := hF
  omega
theorem Y_hasPerson_loop {x : Int32} {P : Nat} (hF : okF F) (hP60 : P ≤ 60) (hP : C 169 9 = nI P) (ky : (∃ p, p < P ∧ C 175 p = x) → Q (.inl (some (.int 1))) (hp F C J G)) (kn : (∀ p, p < P → ¬ C 175 p = x) → Q (.inl (some (.int 0))) (hp F C J G)) :
    ∀ (d i : Nat), i + d = P → ∀ v : Int32, ((v = 1 ∧ ∃ p, p < i ∧ C 175 p = x) ∨ (v = 0 ∧ ∀ p, p < i → ¬ C 175 p = x)) → X y_Model_hasPerson 4 [some (.ref 169), some (.int x), some (.int v), some (.int (nI i))] [] (hp F C J G) Q := by
  intro d
  induction d with
  | zero =>
    intro i hi v hv
    have : i = P := by omega
    subst this
    repeat (refine X_n rfl rfl rfl ?_)
    refine X_bt rfl rfl rfl (show C 169 9 ≤ nI i by rw [hP]; exact Int32.le_refl _) ?_
    repeat (refine X_n rfl rfl rfl ?_)
    rcases hv with ⟨rfl, h⟩ | ⟨rfl, h⟩
    · exact X_r rfl rfl rfl rfl (ky h)
    · exact X_r rfl rfl rfl rfl (kn h)
  | succ d ih =>
    intro i hi v hv
    repeat (refine X_n rfl rfl rfl ?_)
    refine X_bf rfl rfl rfl (show ¬ C 169 9 ≤ nI i by rw [hP]; exact nI_ge (by omega) (by omega)) ?_
    repeat (refine X_n rfl rfl rfl ?_)
    have yes : (∃ p, p < i + 1 ∧ C 175 p = x) → X y_Model_hasPerson 26 [some (.ref 169), some (.int x), some (.int v), some (.int (nI i))] [] (hp F C J G) Q := by
      intro h
      iterate 5 (refine X_n rfl rfl rfl ?_)
      rw [nI_1']
      exact ih (i + 1) (by omega) 1 (Or.inl ⟨rfl, h⟩)
    rcases hv with ⟨rfl, p, hp1, hp2⟩ | ⟨rfl, h⟩
    · refine X_bt rfl rfl rfl (show ¬ (1 : Int32) = 0 by decide) ?_
      exact yes ⟨p, by omega, hp2⟩
    · refine X_bf rfl rfl rfl (fun h => h rfl) ?_
      repeat (refine X_n rfl rfl rfl ?_)
      refine X_la rfl rfl rfl hF (show i < 60 by omega) ?_
      repeat (refine X_n rfl rfl rfl ?_)
      refine X_b rfl rfl rfl (fun q => ?_) (fun q => ?_)
      · iterate 4 (refine X_n rfl rfl rfl ?_)
        rw [nI_1']
        refine ih (i + 1) (by omega) 0 (Or.inr ⟨rfl, fun p hp1 => ?_⟩)
        by_cases e : p = i
        · subst e; exact q
        · exact h p (by omega)
      · exact yes ⟨i, by omega, Decidable.not_not.mp q⟩
theorem Y_hasPerson {x : Int32} {P : Nat} (hF : okF F) (hP60 : P ≤ 60) (hP : C 169 9 = nI P) (ky : (∃ p, p < P ∧ C 175 p = x) → Q (.inl (some (.int 1))) (hp F C J G)) (kn : (∀ p, p < P → ¬ C 175 p = x) → Q (.inl (some (.int 0))) (hp F C J G)) : Y y_Model_hasPerson [.ref 169, .int x] (hp F C J G) Q := by
  unfold Y
  iterate 4 (refine X_n rfl rfl rfl ?_)
  exact Y_hasPerson_loop hF hP60 hP ky kn P 0 (by omega) 0 (Or.inr ⟨rfl, fun p hp1 => by omega⟩)
/-- changed -/
def mch (C : Ct) : Ct := st (st C 169 14 0) 169 17 0
theorem Y_msmoke_no {x z s : Int32} (h : (x < 0 ∨ nI F.1 ≤ x ∨ z < 0 ∨ nI F.2.1 ≤ z) ∨ ¬ (-1 ≤ s ∧ s ≤ 3600)) : Yd y_Model_smoke [.ref 169, .int x, .int z, .int s] (hp F C J G) (.inl (some (.int 0))) (hp F (st C 169 0 1) J G) := by
  refine Yd_of (fun Q k => ?_)
  unfold Y
  repeat (refine X_n rfl rfl rfl ?_)
  refine X_cd rfl rfl rfl rfl Y_isCell ?_
  refine X_z rfl (fun q => ?_) (fun q => ?_)
  · repeat (refine X_n rfl rfl rfl ?_)
    refine X_cd rfl rfl rfl rfl Y_refuses ?_
    refine X_z rfl (fun q => absurd (by decide) q) (fun _ => ?_)
    repeat (refine X_n rfl rfl rfl ?_)
    exact X_r rfl rfl rfl rfl k
  · have h : ¬ (-1 ≤ s ∧ s ≤ 3600) := h.resolve_left (fun h => inC_no h q)
    repeat (refine X_n rfl rfl rfl ?_)
    refine X_b rfl rfl rfl (fun q1 => ?_) (fun q1 => ?_)
    · repeat (refine X_n rfl rfl rfl ?_)
      refine X_cd rfl rfl rfl rfl Y_refuses ?_
      refine X_z rfl (fun q => absurd (by decide) q) (fun _ => ?_)
      repeat (refine X_n rfl rfl rfl ?_)
      exact X_r rfl rfl rfl rfl k
    · repeat (refine X_n rfl rfl rfl ?_)
      refine X_b rfl rfl rfl (fun q2 => ?_) (fun q2 => ?_)
      · exact absurd ⟨Int32.not_lt.mp q1, q2⟩ h
      · repeat (refine X_n rfl rfl rfl ?_)
        refine X_cd rfl rfl rfl rfl Y_refuses ?_
        refine X_z rfl (fun q => absurd (by decide) q) (fun _ => ?_)
        repeat (refine X_n rfl rfl rfl ?_)
        exact X_r rfl rfl rfl rfl k
theorem Y_msmoke {i j : Nat} {s : Int32} (hF : okF F) (hi : i < F.1) (hj : j < F.2.1) (hs : -1 ≤ s ∧ s ≤ 3600) : Yd y_Model_smoke [.ref 169, .int (nI i), .int (nI j), .int s] (hp F C J G) (.inl (some (.int (C 173 (24 * j + i))))) (hp F (mch (st (st C 169 0 0) 173 (24 * j + i) s)) J G) := by
  refine Yd_of (fun Q k => ?_)
  unfold Y
  have hm := m576 hF hi hj
  repeat (refine X_n rfl rfl rfl ?_)
  refine X_cd rfl rfl rfl rfl Y_isCell ?_
  refine X_z rfl (fun q => ?_) (fun q => ?_)
  · exact absurd (inC_yes hF hi hj) q
  repeat (refine X_n rfl rfl rfl ?_)
  refine X_bf rfl rfl rfl (Int32.not_lt.mpr hs.1) ?_
  repeat (refine X_n rfl rfl rfl ?_)
  refine X_bt rfl rfl rfl hs.2 ?_
  repeat (refine X_n rfl rfl rfl ?_)
  refine X_cd rfl rfl rfl rfl Y_refuses ?_
  refine X_z rfl (fun _ => ?_) (fun q => absurd q (by decide))
  repeat (refine X_n rfl rfl rfl ?_)
  refine X_cd rfl rfl rfl rfl (Y_mcell _) ?_
  refine X_la rfl rfl rfl hF hm ?_
  repeat (refine X_n rfl rfl rfl ?_)
  refine X_cd rfl rfl rfl rfl (Y_mcell _) ?_
  repeat (refine X_n rfl rfl rfl ?_)
  refine X_sa rfl rfl rfl hF hm ?_
  repeat (refine X_n rfl rfl rfl ?_)
  refine X_cd rfl rfl rfl rfl Y_changed ?_
  repeat (refine X_n rfl rfl rfl ?_)
  exact X_r rfl rfl rfl rfl k
theorem Y_mwall_no {x z : Int32} {b : Bool} (h : x < 0 ∨ nI F.1 ≤ x ∨ z < 0 ∨ nI F.2.1 ≤ z) : Yd y_Model_wall [.ref 169, .int x, .int z, .int (bI b)] (hp F C J G) (.inl (some (.int 0))) (hp F (st C 169 0 1) J G) := by
  refine Yd_of (fun Q k => ?_)
  unfold Y
  repeat (refine X_n rfl rfl rfl ?_)
  refine X_cd rfl rfl rfl rfl Y_isCell ?_
  refine X_nz rfl (fun q => ?_) (fun q => ?_)
  · exact absurd q (inC_no h)
  · repeat (refine X_n rfl rfl rfl ?_)
    refine X_cd rfl rfl rfl rfl Y_refuses ?_
    refine X_z rfl (fun q => absurd (by decide) q) (fun _ => ?_)
    repeat (refine X_n rfl rfl rfl ?_)
    exact X_r rfl rfl rfl rfl k
theorem Y_mwall_no2 {i j P : Nat} {b : Bool} (hF : okF F) (hi : i < F.1) (hj : j < F.2.1) (hP60 : P ≤ 60) (hP : C 169 9 = nI P) (h : ∃ p, p < P ∧ C 175 p = nI (24 * j + i)) : Yd y_Model_wall [.ref 169, .int (nI i), .int (nI j), .int (bI b)] (hp F C J G) (.inl (some (.int 0))) (hp F (st C 169 0 2) J G) := by
  refine Yd_of (fun Q k => ?_)
  unfold Y
  repeat (refine X_n rfl rfl rfl ?_)
  refine X_cd rfl rfl rfl rfl Y_isCell ?_
  refine X_nz rfl (fun q => ?_) (fun q => ?_)
  · repeat (refine X_n rfl rfl rfl ?_)
    refine X_cd rfl rfl rfl rfl (Y_mcell _) ?_
    refine X_k rfl rfl rfl rfl (Y_hasPerson hF hP60 hP (fun _ => ?_) (fun hn => ?_))
    · refine X_bf rfl rfl rfl (show ¬ (1 : Int32) = 0 by decide) ?_
      repeat (refine X_n rfl rfl rfl ?_)
      refine X_cd rfl rfl rfl rfl Y_refuses ?_
      refine X_z rfl (fun q => absurd (by decide) q) (fun _ => ?_)
      repeat (refine X_n rfl rfl rfl ?_)
      exact X_r rfl rfl rfl rfl k
    · obtain ⟨p, h1, h2⟩ := h
      exact absurd h2 (hn p h1)
  · exact absurd (inC_yes hF hi hj) q
def mwl (C : Ct) (c : Nat) (b : Bool) : Ct := mch (st (st (st (st C 169 0 0) 170 c (bI b)) 171 c (if b then -1 else C 171 c)) 172 c (if b then 0 else C 172 c))
theorem Y_mwall {i j P : Nat} {b : Bool} (hF : okF F) (hi : i < F.1) (hj : j < F.2.1) (hP60 : P ≤ 60) (hP : C 169 9 = nI P) (h : ∀ p, p < P → ¬ C 175 p = nI (24 * j + i)) (hw : C 170 (24 * j + i) = 0 ∨ C 170 (24 * j + i) = 1) : Yd y_Model_wall [.ref 169, .int (nI i), .int (nI j), .int (bI b)] (hp F C J G) (.inl (some (.int (C 170 (24 * j + i))))) (hp F (mwl C (24 * j + i) b) J G) := by
  refine Yd_of (fun Q k => ?_)
  unfold Y
  have hm := m576 hF hi hj
  have fit : m_fit .boolean (.int (C 170 (24 * j + i))) = true := by rcases hw with e | e <;> rw [e] <;> rfl
  repeat (refine X_n rfl rfl rfl ?_)
  refine X_cd rfl rfl rfl rfl Y_isCell ?_
  refine X_nz rfl (fun q => ?_) (fun q => ?_)
  · repeat (refine X_n rfl rfl rfl ?_)
    refine X_cd rfl rfl rfl rfl (Y_mcell _) ?_
    refine X_k rfl rfl rfl rfl (Y_hasPerson hF hP60 hP (fun hy => ?_) (fun _ => ?_))
    · obtain ⟨p, h1, h2⟩ := hy
      exact absurd h2 (h p h1)
    · refine X_bt rfl rfl rfl rfl ?_
      repeat (refine X_n rfl rfl rfl ?_)
      refine X_cd rfl rfl rfl rfl Y_refuses ?_
      refine X_z rfl (fun _ => ?_) (fun q => absurd q (by decide))
      repeat (refine X_n rfl rfl rfl ?_)
      refine X_cd rfl rfl rfl rfl (Y_mcell _) ?_
      repeat (refine X_n rfl rfl rfl ?_)
      refine X_lb rfl rfl rfl hF hm ?_
      repeat (refine X_n rfl rfl rfl ?_)
      refine X_sb rfl rfl (by cases b <;> decide) rfl hF hm ?_
      repeat (refine X_n rfl rfl rfl ?_)
      cases b with
      | true =>
        refine X_bf rfl rfl rfl bI_t0 ?_
        repeat (refine X_n rfl rfl rfl ?_)
        refine X_sa rfl rfl rfl hF hm ?_
        repeat (refine X_n rfl rfl rfl ?_)
        refine X_bf rfl rfl rfl bI_t0 ?_
        repeat (refine X_n rfl rfl rfl ?_)
        refine X_sa rfl rfl rfl hF hm ?_
        repeat (refine X_n rfl rfl rfl ?_)
        refine X_cd rfl rfl rfl rfl Y_changed ?_
        repeat (refine X_n rfl rfl rfl ?_)
        refine X_r (v := some (.int (C 170 (24 * j + i)))) rfl rfl rfl ?_ k
        show (match m_fit .boolean (.int (C 170 (24 * j + i))) with | true => some (some (Value.int (C 170 (24 * j + i)))) | _ => none) = _
        rw [fit]
      | false =>
        refine X_bt rfl rfl rfl bI_f0 ?_
        repeat (refine X_n rfl rfl rfl ?_)
        refine X_la rfl rfl rfl hF hm ?_
        refine X_sa rfl rfl rfl hF hm ?_
        repeat (refine X_n rfl rfl rfl ?_)
        refine X_bt rfl rfl rfl bI_f0 ?_
        repeat (refine X_n rfl rfl rfl ?_)
        refine X_la rfl rfl rfl hF hm ?_
        refine X_sa rfl rfl rfl hF hm ?_
        repeat (refine X_n rfl rfl rfl ?_)
        refine X_cd rfl rfl rfl rfl Y_changed ?_
        repeat (refine X_n rfl rfl rfl ?_)
        refine X_r (v := some (.int (C 170 (24 * j + i)))) rfl rfl rfl ?_ k
        show (match m_fit .boolean (.int (C 170 (24 * j + i))) with | true => some (some (Value.int (C 170 (24 * j + i)))) | _ => none) = _
        rw [fit]
  · exact absurd (inC_yes hF hi hj) q
theorem i32_pos {r : Int32} (h : 0 < r) : 1 ≤ r := by
  rw [Int32.lt_iff_toInt_lt] at h
  rw [Int32.le_iff_toInt_le]
  have e0 : (0 : Int32).toInt = 0 := by decide
  have e1 : (1 : Int32).toInt = 1 := by decide
  omega
theorem i32_le5 {r : Int32} (h : r < 6) : r ≤ 5 := by
  rw [Int32.lt_iff_toInt_lt] at h
  rw [Int32.le_iff_toInt_le]
  have e0 : (6 : Int32).toInt = 6 := by decide
  have e1 : (5 : Int32).toInt = 5 := by decide
  omega
theorem i32_neg {r : Int32} (h : -1 ≤ r) (h2 : r < 0) : r = -1 := by
  rw [Int32.le_iff_toInt_le] at h
  rw [Int32.lt_iff_toInt_lt] at h2
  have e0 : (-1 : Int32).toInt = -1 := by decide
  have e1 : (0 : Int32).toInt = 0 := by decide
  apply Int32.toInt_inj.mp
  omega
theorem r6 {r : Int32} (h : r ≤ 0 ∨ 6 ≤ r) : ¬ (1 ≤ r ∧ r ≤ 5) := by
  rintro ⟨a, b⟩
  rcases h with h | h
  · exact absurd (Int32.le_trans a h) (by decide)
  · exact absurd (Int32.le_trans h b) (by decide)
theorem r6' {r : Int32} (h : 1 ≤ r ∧ r ≤ 5) : 0 < r ∧ r < 6 := ⟨Int32.lt_of_lt_of_le (show (0 : Int32) < 1 by decide) h.1, Int32.lt_of_le_of_lt h.2 (show (5 : Int32) < 6 by decide)⟩
theorem Y_mdoor_no {x z r : Int32} (h : (x < 0 ∨ nI F.1 ≤ x ∨ z < 0 ∨ nI F.2.1 ≤ z) ∨ ¬ (1 ≤ r ∧ r ≤ 5)) : Yd y_Model_door [.ref 169, .int x, .int z, .int r] (hp F C J G) (.inl none) (hp F (st C 169 0 1) J G) := by
  refine Yd_of (fun Q k => ?_)
  unfold Y
  have tail : X y_Model_door 23 [some (.ref 169), some (.int x), some (.int z), some (.int r), none, none] [] (hp F C J G) Q := by
    repeat (refine X_n rfl rfl rfl ?_)
    refine X_bt rfl rfl rfl rfl ?_
    repeat (refine X_n rfl rfl rfl ?_)
    refine X_bf rfl rfl rfl (fun h => h rfl) ?_
    repeat (refine X_n rfl rfl rfl ?_)
    refine X_cd rfl rfl rfl rfl Y_refuses ?_
    refine X_nz rfl (fun _ => ?_) (fun q => absurd (by decide) q)
    exact X_r rfl rfl rfl rfl k
  repeat (refine X_n rfl rfl rfl ?_)
  refine X_cd rfl rfl rfl rfl Y_isCell ?_
  refine X_z rfl (fun q => ?_) (fun q => ?_)
  · exact tail
  · have h : ¬ (1 ≤ r ∧ r ≤ 5) := h.resolve_left (fun h => inC_no h q)
    repeat (refine X_n rfl rfl rfl ?_)
    refine X_b rfl rfl rfl (fun q1 => ?_) (fun q1 => ?_)
    · exact tail
    · repeat (refine X_n rfl rfl rfl ?_)
      refine X_b rfl rfl rfl (fun q2 => ?_) (fun q2 => ?_)
      · exact tail
      · exact absurd ⟨i32_pos (Int32.not_le.mp q1), i32_le5 (Int32.not_le.mp q2)⟩ h
theorem Y_mdoor_no2 {i j : Nat} {r : Int32} (hF : okF F) (hi : i < F.1) (hj : j < F.2.1) (hr : 1 ≤ r ∧ r ≤ 5) (h : C 170 (24 * j + i) = 1 ∨ (C 170 (24 * j + i) = 0 ∧ 0 ≤ C 171 (24 * j + i))) : Yd y_Model_door [.ref 169, .int (nI i), .int (nI j), .int r] (hp F C J G) (.inl none) (hp F (st C 169 0 2) J G) := by
  refine Yd_of (fun Q k => ?_)
  unfold Y
  have hm := m576 hF hi hj
  obtain ⟨r1, r2⟩ := r6' hr
  repeat (refine X_n rfl rfl rfl ?_)
  refine X_cd rfl rfl rfl rfl Y_isCell ?_
  refine X_z rfl (fun q => ?_) (fun q => ?_)
  · exact absurd (inC_yes hF hi hj) q
  repeat (refine X_n rfl rfl rfl ?_)
  refine X_bf rfl rfl rfl (Int32.not_le.mpr r1) ?_
  repeat (refine X_n rfl rfl rfl ?_)
  refine X_bf rfl rfl rfl (Int32.not_le.mpr r2) ?_
  repeat (refine X_n rfl rfl rfl ?_)
  refine X_bf rfl rfl rfl (show ¬ (1 : Int32) = 0 by decide) ?_
  repeat (refine X_n rfl rfl rfl ?_)
  refine X_cd rfl rfl rfl rfl (Y_mcell _) ?_
  repeat (refine X_n rfl rfl rfl ?_)
  refine X_bt rfl rfl rfl (show ¬ (1 : Int32) = 0 by decide) ?_
  repeat (refine X_n rfl rfl rfl ?_)
  refine X_lb rfl rfl rfl hF hm ?_
  rcases h with h | ⟨h0, h⟩
  · rw [h]
    refine X_bt rfl rfl rfl (show ¬ (1 : Int32) = 0 by decide) ?_
    repeat (refine X_n rfl rfl rfl ?_)
    refine X_cd rfl rfl rfl rfl Y_refuses ?_
    refine X_nz rfl (fun _ => ?_) (fun q => absurd (by decide) q)
    exact X_r rfl rfl rfl rfl k
  · rw [h0]
    refine X_bf rfl rfl rfl (fun h => h rfl) ?_
    repeat (refine X_n rfl rfl rfl ?_)
    refine X_la rfl rfl rfl hF hm ?_
    refine X_bf rfl rfl rfl (Int32.not_lt.mpr h) ?_
    repeat (refine X_n rfl rfl rfl ?_)
    refine X_cd rfl rfl rfl rfl Y_refuses ?_
    refine X_nz rfl (fun _ => ?_) (fun q => absurd (by decide) q)
    exact X_r rfl rfl rfl rfl k
theorem Y_mdoor {i j : Nat} {r : Int32} (hF : okF F) (hi : i < F.1) (hj : j < F.2.1) (hr : 1 ≤ r ∧ r ≤ 5) (h0 : C 170 (24 * j + i) = 0) (h : C 171 (24 * j + i) < 0) : Yd y_Model_door [.ref 169, .int (nI i), .int (nI j), .int r] (hp F C J G) (.inl none) (hp F (mch (st (st C 169 0 0) 172 (24 * j + i) r)) J G) := by
  refine Yd_of (fun Q k => ?_)
  unfold Y
  have hm := m576 hF hi hj
  obtain ⟨r1, r2⟩ := r6' hr
  repeat (refine X_n rfl rfl rfl ?_)
  refine X_cd rfl rfl rfl rfl Y_isCell ?_
  refine X_z rfl (fun q => ?_) (fun q => ?_)
  · exact absurd (inC_yes hF hi hj) q
  repeat (refine X_n rfl rfl rfl ?_)
  refine X_bf rfl rfl rfl (Int32.not_le.mpr r1) ?_
  repeat (refine X_n rfl rfl rfl ?_)
  refine X_bf rfl rfl rfl (Int32.not_le.mpr r2) ?_
  repeat (refine X_n rfl rfl rfl ?_)
  refine X_bf rfl rfl rfl (show ¬ (1 : Int32) = 0 by decide) ?_
  repeat (refine X_n rfl rfl rfl ?_)
  refine X_cd rfl rfl rfl rfl (Y_mcell _) ?_
  repeat (refine X_n rfl rfl rfl ?_)
  refine X_bt rfl rfl rfl (show ¬ (1 : Int32) = 0 by decide) ?_
  repeat (refine X_n rfl rfl rfl ?_)
  refine X_lb rfl rfl rfl hF hm ?_
  rw [h0]
  refine X_bf rfl rfl rfl (fun h => h rfl) ?_
  repeat (refine X_n rfl rfl rfl ?_)
  refine X_la rfl rfl rfl hF hm ?_
  refine X_bt rfl rfl rfl h ?_
  repeat (refine X_n rfl rfl rfl ?_)
  refine X_cd rfl rfl rfl rfl Y_refuses ?_
  refine X_nz rfl (fun q => absurd q (by decide)) (fun _ => ?_)
  repeat (refine X_n rfl rfl rfl ?_)
  refine X_sa rfl rfl rfl hF hm ?_
  repeat (refine X_n rfl rfl rfl ?_)
  refine X_cd rfl rfl rfl rfl Y_changed ?_
  exact X_r rfl rfl rfl rfl k
theorem Y_mexit_no {x z r : Int32} (h : (x < 0 ∨ nI F.1 ≤ x ∨ z < 0 ∨ nI F.2.1 ≤ z) ∨ ¬ (1 ≤ r ∧ r ≤ 5)) : Yd y_Model_exit [.ref 169, .int x, .int z, .int r] (hp F C J G) (.inl (some (.int 0))) (hp F (st C 169 0 1) J G) := by
  refine Yd_of (fun Q k => ?_)
  unfold Y
  have tail : X y_Model_exit 23 [some (.ref 169), some (.int x), some (.int z), some (.int r), none, none, none] [] (hp F C J G) Q := by
    repeat (refine X_n rfl rfl rfl ?_)
    refine X_bt rfl rfl rfl rfl ?_
    repeat (refine X_n rfl rfl rfl ?_)
    refine X_bt rfl rfl rfl rfl ?_
    repeat (refine X_n rfl rfl rfl ?_)
    refine X_bf rfl rfl rfl (fun h => h rfl) ?_
    repeat (refine X_n rfl rfl rfl ?_)
    refine X_cd rfl rfl rfl rfl Y_refuses ?_
    refine X_z rfl (fun q => absurd (by decide) q) (fun _ => ?_)
    repeat (refine X_n rfl rfl rfl ?_)
    exact X_r rfl rfl rfl rfl k
  repeat (refine X_n rfl rfl rfl ?_)
  refine X_cd rfl rfl rfl rfl Y_isCell ?_
  refine X_z rfl (fun q => ?_) (fun q => ?_)
  · exact tail
  · have h : ¬ (1 ≤ r ∧ r ≤ 5) := h.resolve_left (fun h => inC_no h q)
    repeat (refine X_n rfl rfl rfl ?_)
    refine X_b rfl rfl rfl (fun q1 => ?_) (fun q1 => ?_)
    · exact tail
    · repeat (refine X_n rfl rfl rfl ?_)
      refine X_b rfl rfl rfl (fun q2 => ?_) (fun q2 => ?_)
      · exact tail
      · exact absurd ⟨i32_pos (Int32.not_le.mp q1), i32_le5 (Int32.not_le.mp q2)⟩ h
theorem Y_mexit_no2 {i j P : Nat} {r : Int32} (hF : okF F) (hi : i < F.1) (hj : j < F.2.1) (hr : 1 ≤ r ∧ r ≤ 5) (hP60 : P ≤ 60) (hP : C 169 9 = nI P) (hw : C 170 (24 * j + i) = 0 ∨ C 170 (24 * j + i) = 1) (h : C 170 (24 * j + i) = 1 ∨ (∃ p, p < P ∧ C 175 p = nI (24 * j + i)) ∨ (C 171 (24 * j + i) < 0 ∧ C 169 7 = 8)) : Yd y_Model_exit [.ref 169, .int (nI i), .int (nI j), .int r] (hp F C J G) (.inl (some (.int 0))) (hp F (st C 169 0 2) J G) := by
  refine Yd_of (fun Q k => ?_)
  unfold Y
  have hm := m576 hF hi hj
  obtain ⟨r1, r2⟩ := r6' hr
  have tail : X y_Model_exit 89 [some (.ref 169), some (.int (nI i)), some (.int (nI j)), some (.int r), some (.int 1), some (.int (nI (24 * j + i))), none] [] (hp F C J G) Q := by
    repeat (refine X_n rfl rfl rfl ?_)
    refine X_bt rfl rfl rfl (show ¬ (1 : Int32) = 0 by decide) ?_
    repeat (refine X_n rfl rfl rfl ?_)
    refine X_bf rfl rfl rfl (fun h => h rfl) ?_
    repeat (refine X_n rfl rfl rfl ?_)
    refine X_cd rfl rfl rfl rfl Y_refuses ?_
    refine X_z rfl (fun q => absurd (by decide) q) (fun _ => ?_)
    repeat (refine X_n rfl rfl rfl ?_)
    exact X_r rfl rfl rfl rfl k
  repeat (refine X_n rfl rfl rfl ?_)
  refine X_cd rfl rfl rfl rfl Y_isCell ?_
  refine X_z rfl (fun q => ?_) (fun q => ?_)
  · exact absurd (inC_yes hF hi hj) q
  repeat (refine X_n rfl rfl rfl ?_)
  refine X_bf rfl rfl rfl (Int32.not_le.mpr r1) ?_
  repeat (refine X_n rfl rfl rfl ?_)
  refine X_bf rfl rfl rfl (Int32.not_le.mpr r2) ?_
  repeat (refine X_n rfl rfl rfl ?_)
  refine X_bf rfl rfl rfl (show ¬ (1 : Int32) = 0 by decide) ?_
  repeat (refine X_n rfl rfl rfl ?_)
  refine X_cd rfl rfl rfl rfl (Y_mcell _) ?_
  repeat (refine X_n rfl rfl rfl ?_)
  refine X_bf rfl rfl rfl (show ¬ (1 : Int32) = 0 by decide) ?_
  repeat (refine X_n rfl rfl rfl ?_)
  refine X_lb rfl rfl rfl hF hm ?_
  rcases hw with h0 | h0
  · have h := h.resolve_left (fun e => by rw [h0] at e; exact absurd e (by decide))
    rw [h0]
    refine X_bf rfl rfl rfl (fun h => h rfl) ?_
    repeat (refine X_n rfl rfl rfl ?_)
    refine X_k rfl rfl rfl rfl (Y_hasPerson hF hP60 hP (fun _ => ?_) (fun hn => ?_))
    · refine X_bt rfl rfl rfl (show ¬ (1 : Int32) = 0 by decide) ?_
      exact tail
    · rcases h with ⟨p, h1, h2⟩ | ⟨h1, h2⟩
      · exact absurd h2 (hn p h1)
      · refine X_bf rfl rfl rfl (fun h => h rfl) ?_
        repeat (refine X_n rfl rfl rfl ?_)
        refine X_la rfl rfl rfl hF hm ?_
        refine X_bf rfl rfl rfl (Int32.not_le.mpr h1) ?_
        repeat (refine X_n rfl rfl rfl ?_)
        refine X_bt rfl rfl rfl (show 8 ≤ C 169 7 by rw [h2]; decide) ?_
        exact tail
  · rw [h0]
    refine X_bt rfl rfl rfl (show ¬ (1 : Int32) = 0 by decide) ?_
    exact tail
theorem Y_mexit_old {i j P : Nat} {r : Int32} (hF : okF F) (hi : i < F.1) (hj : j < F.2.1) (hr : 1 ≤ r ∧ r ≤ 5) (hP60 : P ≤ 60) (hP : C 169 9 = nI P) (h0 : C 170 (24 * j + i) = 0) (hn : ∀ p, p < P → ¬ C 175 p = nI (24 * j + i)) (h1 : 0 ≤ C 171 (24 * j + i)) : Yd y_Model_exit [.ref 169, .int (nI i), .int (nI j), .int r] (hp F C J G) (.inl (some (.int (C 171 (24 * j + i))))) (hp F (mch (st (st C 169 0 0) 172 (24 * j + i) r)) J G) := by
  refine Yd_of (fun Q k => ?_)
  unfold Y
  have hm := m576 hF hi hj
  obtain ⟨r1, r2⟩ := r6' hr
  repeat (refine X_n rfl rfl rfl ?_)
  refine X_cd rfl rfl rfl rfl Y_isCell ?_
  refine X_z rfl (fun q => ?_) (fun q => ?_)
  · exact absurd (inC_yes hF hi hj) q
  repeat (refine X_n rfl rfl rfl ?_)
  refine X_bf rfl rfl rfl (Int32.not_le.mpr r1) ?_
  repeat (refine X_n rfl rfl rfl ?_)
  refine X_bf rfl rfl rfl (Int32.not_le.mpr r2) ?_
  repeat (refine X_n rfl rfl rfl ?_)
  refine X_bf rfl rfl rfl (show ¬ (1 : Int32) = 0 by decide) ?_
  repeat (refine X_n rfl rfl rfl ?_)
  refine X_cd rfl rfl rfl rfl (Y_mcell _) ?_
  repeat (refine X_n rfl rfl rfl ?_)
  refine X_bf rfl rfl rfl (show ¬ (1 : Int32) = 0 by decide) ?_
  repeat (refine X_n rfl rfl rfl ?_)
  refine X_lb rfl rfl rfl hF hm ?_
  rw [h0]
  refine X_bf rfl rfl rfl (fun h => h rfl) ?_
  repeat (refine X_n rfl rfl rfl ?_)
  refine X_k rfl rfl rfl rfl (Y_hasPerson hF hP60 hP (fun hy => ?_) (fun _ => ?_))
  · obtain ⟨p, a, b⟩ := hy
    exact absurd b (hn p a)
  refine X_bf rfl rfl rfl (fun h => h rfl) ?_
  repeat (refine X_n rfl rfl rfl ?_)
  refine X_la rfl rfl rfl hF hm ?_
  refine X_bt rfl rfl rfl h1 ?_
  repeat (refine X_n rfl rfl rfl ?_)
  refine X_bt rfl rfl rfl (show ¬ (1 : Int32) = 0 by decide) ?_
  repeat (refine X_n rfl rfl rfl ?_)
  refine X_bt rfl rfl rfl (show ¬ (1 : Int32) = 0 by decide) ?_
  repeat (refine X_n rfl rfl rfl ?_)
  refine X_cd rfl rfl rfl rfl Y_refuses ?_
  refine X_z rfl (fun _ => ?_) (fun q => absurd q (by decide))
  repeat (refine X_n rfl rfl rfl ?_)
  refine X_la rfl rfl rfl hF hm ?_
  refine X_bt rfl rfl rfl (show 0 ≤ st C 169 0 0 171 (24 * j + i) from h1) ?_
  repeat (refine X_n rfl rfl rfl ?_)
  refine X_sa rfl rfl rfl hF hm ?_
  repeat (refine X_n rfl rfl rfl ?_)
  refine X_cd rfl rfl rfl rfl Y_changed ?_
  repeat (refine X_n rfl rfl rfl ?_)
  refine X_la rfl rfl rfl hF hm ?_
  exact X_r rfl rfl rfl rfl k
theorem Y_mexit_new {i j P n8 : Nat} {r : Int32} (hF : okF F) (hi : i < F.1) (hj : j < F.2.1) (hr : 1 ≤ r ∧ r ≤ 5) (hP60 : P ≤ 60) (hP : C 169 9 = nI P) (h0 : C 170 (24 * j + i) = 0) (hn : ∀ p, p < P → ¬ C 175 p = nI (24 * j + i)) (h1 : C 171 (24 * j + i) < 0) (hX : C 169 7 = nI n8) (h8 : n8 < 8) : Yd y_Model_exit [.ref 169, .int (nI i), .int (nI j), .int r] (hp F C J G) (.inl (some (.int (nI n8)))) (hp F (mch (st (st (st (st (st C 169 0 0) 171 (24 * j + i) (nI n8)) 174 n8 (nI (24 * j + i))) 169 7 (nI (n8 + 1))) 172 (24 * j + i) r)) J G) := by
  refine Yd_of (fun Q k => ?_)
  unfold Y
  have hm := m576 hF hi hj
  obtain ⟨r1, r2⟩ := r6' hr
  repeat (refine X_n rfl rfl rfl ?_)
  refine X_cd rfl rfl rfl rfl Y_isCell ?_
  refine X_z rfl (fun q => ?_) (fun q => ?_)
  · exact absurd (inC_yes hF hi hj) q
  repeat (refine X_n rfl rfl rfl ?_)
  refine X_bf rfl rfl rfl (Int32.not_le.mpr r1) ?_
  repeat (refine X_n rfl rfl rfl ?_)
  refine X_bf rfl rfl rfl (Int32.not_le.mpr r2) ?_
  repeat (refine X_n rfl rfl rfl ?_)
  refine X_bf rfl rfl rfl (show ¬ (1 : Int32) = 0 by decide) ?_
  repeat (refine X_n rfl rfl rfl ?_)
  refine X_cd rfl rfl rfl rfl (Y_mcell _) ?_
  repeat (refine X_n rfl rfl rfl ?_)
  refine X_bf rfl rfl rfl (show ¬ (1 : Int32) = 0 by decide) ?_
  repeat (refine X_n rfl rfl rfl ?_)
  refine X_lb rfl rfl rfl hF hm ?_
  rw [h0]
  refine X_bf rfl rfl rfl (fun h => h rfl) ?_
  repeat (refine X_n rfl rfl rfl ?_)
  refine X_k rfl rfl rfl rfl (Y_hasPerson hF hP60 hP (fun hy => ?_) (fun _ => ?_))
  · obtain ⟨p, a, b⟩ := hy
    exact absurd b (hn p a)
  refine X_bf rfl rfl rfl (fun h => h rfl) ?_
  repeat (refine X_n rfl rfl rfl ?_)
  refine X_la rfl rfl rfl hF hm ?_
  refine X_bf rfl rfl rfl (Int32.not_le.mpr h1) ?_
  repeat (refine X_n rfl rfl rfl ?_)
  refine X_bf rfl rfl rfl (show ¬ 8 ≤ C 169 7 by rw [hX]; exact nI_ge (b := 8) h8 (by omega)) ?_
  repeat (refine X_n rfl rfl rfl ?_)
  refine X_bt rfl rfl rfl (show ¬ (1 : Int32) = 0 by decide) ?_
  repeat (refine X_n rfl rfl rfl ?_)
  refine X_bt rfl rfl rfl (show ¬ (1 : Int32) = 0 by decide) ?_
  repeat (refine X_n rfl rfl rfl ?_)
  refine X_cd rfl rfl rfl rfl Y_refuses ?_
  refine X_z rfl (fun _ => ?_) (fun q => absurd q (by decide))
  have e7 : st C 169 0 0 169 7 = nI n8 := hX
  repeat (refine X_n rfl rfl rfl ?_)
  refine X_la rfl rfl rfl hF hm ?_
  refine X_bf rfl rfl rfl (show ¬ 0 ≤ st C 169 0 0 171 (24 * j + i) from Int32.not_le.mpr h1) ?_
  repeat (refine X_n rfl rfl rfl ?_)
  refine X_top (w := nI n8) hX ?_
  refine X_sa rfl rfl rfl hF hm ?_
  iterate 5 (refine X_n rfl rfl rfl ?_)
  refine X_sa (k := n8) rfl rfl hX hF h8 ?_
  iterate 5 (refine X_n rfl rfl rfl ?_)
  refine X_top (w := nI (n8 + 1)) (show C 169 7 + 1 = nI (n8 + 1) by rw [hX, nI_1]) ?_
  refine X_s rfl rfl ?_
  refine X_h (hp_f169_7 rfl) ?_
  repeat (refine X_n rfl rfl rfl ?_)
  refine X_sa rfl rfl rfl hF hm ?_
  repeat (refine X_n rfl rfl rfl ?_)
  refine X_cd rfl rfl rfl rfl Y_changed ?_
  repeat (refine X_n rfl rfl rfl ?_)
  refine X_la rfl rfl rfl hF hm ?_
  refine X_top (w := nI n8) ?_ ?_
  · rw [st_k (by omega), st_k (by omega), st_k (by omega), st_k (by omega), st_k (by omega), st_s]
  exact X_r rfl rfl rfl rfl k
theorem r600 {a d : Int32} (h1 : 1 ≤ a ∧ a ≤ 5) : 0 < a ∧ a < 6 := r6' h1
theorem Y_mperson_no {x z a d : Int32} (h : (x < 0 ∨ nI F.1 ≤ x ∨ z < 0 ∨ nI F.2.1 ≤ z) ∨ ¬ (1 ≤ a ∧ a ≤ 5) ∨ ¬ (0 ≤ d ∧ d ≤ 600)) : Yd y_Model_person [.ref 169, .int x, .int z, .int a, .int d] (hp F C J G) (.inl (some (.int 0))) (hp F (st C 169 0 1) J G) := by
  refine Yd_of (fun Q k => ?_)
  unfold Y
  have tail : X y_Model_person 36 [some (.ref 169), some (.int x), some (.int z), some (.int a), some (.int d), none, none] [] (hp F C J G) Q := by
    repeat (refine X_n rfl rfl rfl ?_)
    refine X_bt rfl rfl rfl rfl ?_
    repeat (refine X_n rfl rfl rfl ?_)
    refine X_bf rfl rfl rfl (fun h => h rfl) ?_
    repeat (refine X_n rfl rfl rfl ?_)
    refine X_cd rfl rfl rfl rfl Y_refuses ?_
    refine X_z rfl (fun q => absurd (by decide) q) (fun _ => ?_)
    repeat (refine X_n rfl rfl rfl ?_)
    exact X_r rfl rfl rfl rfl k
  repeat (refine X_n rfl rfl rfl ?_)
  refine X_cd rfl rfl rfl rfl Y_isCell ?_
  refine X_z rfl (fun q => ?_) (fun q => ?_)
  · exact tail
  · have h := h.resolve_left (fun h => inC_no h q)
    repeat (refine X_n rfl rfl rfl ?_)
    refine X_b rfl rfl rfl (fun q1 => ?_) (fun q1 => ?_)
    · exact tail
    · repeat (refine X_n rfl rfl rfl ?_)
      refine X_b rfl rfl rfl (fun q2 => ?_) (fun q2 => ?_)
      · exact tail
      · have h : ¬ (0 ≤ d ∧ d ≤ 600) := h.resolve_left (fun h => h ⟨i32_pos (Int32.not_le.mp q1), i32_le5 (Int32.not_le.mp q2)⟩)
        repeat (refine X_n rfl rfl rfl ?_)
        refine X_b rfl rfl rfl (fun q3 => ?_) (fun q3 => ?_)
        · exact tail
        · repeat (refine X_n rfl rfl rfl ?_)
          refine X_b rfl rfl rfl (fun q4 => ?_) (fun q4 => ?_)
          · exact tail
          · exact absurd ⟨Int32.not_lt.mp q3, Int32.not_lt.mp q4⟩ h
theorem Y_mperson_no2 {i j P : Nat} {a d : Int32} (hF : okF F) (hi : i < F.1) (hj : j < F.2.1) (ha : 1 ≤ a ∧ a ≤ 5) (hd : 0 ≤ d ∧ d ≤ 600) (hP60 : P ≤ 60) (hP : C 169 9 = nI P) (hw : C 170 (24 * j + i) = 0 ∨ C 170 (24 * j + i) = 1) (h : C 170 (24 * j + i) = 1 ∨ 0 ≤ C 171 (24 * j + i) ∨ (∃ p, p < P ∧ C 175 p = nI (24 * j + i)) ∨ P = 60) : Yd y_Model_person [.ref 169, .int (nI i), .int (nI j), .int a, .int d] (hp F C J G) (.inl (some (.int 0))) (hp F (st C 169 0 2) J G) := by
  refine Yd_of (fun Q k => ?_)
  unfold Y
  have hm := m576 hF hi hj
  obtain ⟨r1, r2⟩ := r6' ha
  have tail : X y_Model_person 103 [some (.ref 169), some (.int (nI i)), some (.int (nI j)), some (.int a), some (.int d), some (.int 1), some (.int (nI (24 * j + i)))] [.ref 169] (hp F C J G) Q := by
    repeat (refine X_n rfl rfl rfl ?_)
    refine X_cd rfl rfl rfl rfl Y_refuses ?_
    refine X_z rfl (fun q => absurd (by decide) q) (fun _ => ?_)
    repeat (refine X_n rfl rfl rfl ?_)
    exact X_r rfl rfl rfl rfl k
  repeat (refine X_n rfl rfl rfl ?_)
  refine X_cd rfl rfl rfl rfl Y_isCell ?_
  refine X_z rfl (fun q => ?_) (fun q => ?_)
  · exact absurd (inC_yes hF hi hj) q
  repeat (refine X_n rfl rfl rfl ?_)
  refine X_bf rfl rfl rfl (Int32.not_le.mpr r1) ?_
  repeat (refine X_n rfl rfl rfl ?_)
  refine X_bf rfl rfl rfl (Int32.not_le.mpr r2) ?_
  repeat (refine X_n rfl rfl rfl ?_)
  refine X_bf rfl rfl rfl (Int32.not_lt.mpr hd.1) ?_
  repeat (refine X_n rfl rfl rfl ?_)
  refine X_bf rfl rfl rfl (Int32.not_lt.mpr hd.2) ?_
  repeat (refine X_n rfl rfl rfl ?_)
  refine X_bf rfl rfl rfl (show ¬ (1 : Int32) = 0 by decide) ?_
  repeat (refine X_n rfl rfl rfl ?_)
  refine X_cd rfl rfl rfl rfl (Y_mcell _) ?_
  repeat (refine X_n rfl rfl rfl ?_)
  refine X_bt rfl rfl rfl (show ¬ (1 : Int32) = 0 by decide) ?_
  repeat (refine X_n rfl rfl rfl ?_)
  refine X_lb rfl rfl rfl hF hm ?_
  rcases hw with h0 | h0
  · have h := h.resolve_left (fun e => by rw [h0] at e; exact absurd e (by decide))
    rw [h0]
    refine X_bf rfl rfl rfl (fun h => h rfl) ?_
    repeat (refine X_n rfl rfl rfl ?_)
    refine X_la rfl rfl rfl hF hm ?_
    refine X_b rfl rfl rfl (fun q1 => ?_) (fun q1 => ?_)
    · exact tail
    · have h := h.resolve_left q1
      repeat (refine X_n rfl rfl rfl ?_)
      refine X_k rfl rfl rfl rfl (Y_hasPerson hF hP60 hP (fun _ => ?_) (fun hn => ?_))
      · refine X_bt rfl rfl rfl (show ¬ (1 : Int32) = 0 by decide) ?_
        exact tail
      · rcases h with ⟨p, a1, a2⟩ | h6
        · exact absurd a2 (hn p a1)
        · refine X_bf rfl rfl rfl (fun h => h rfl) ?_
          repeat (refine X_n rfl rfl rfl ?_)
          refine X_bf rfl rfl rfl (show ¬ ¬ C 169 9 = 60 from fun h => h (by rw [hP, h6]; rfl)) ?_
          exact tail
  · rw [h0]
    refine X_bt rfl rfl rfl (show ¬ (1 : Int32) = 0 by decide) ?_
    exact tail
def maddP (C : Ct) (P c : Nat) (a d : Int32) : Ct := mch (st (st (st (st (st (st C 169 0 0) 175 P (nI c)) 176 P a) 177 P d) 178 P (-1)) 169 9 (nI (P + 1)))
theorem Y_mperson {i j P : Nat} {a d : Int32} (hF : okF F) (hi : i < F.1) (hj : j < F.2.1) (ha : 1 ≤ a ∧ a ≤ 5) (hd : 0 ≤ d ∧ d ≤ 600) (hP60 : P < 60) (hP : C 169 9 = nI P) (h0 : C 170 (24 * j + i) = 0) (h1 : C 171 (24 * j + i) < 0) (hn : ∀ p, p < P → ¬ C 175 p = nI (24 * j + i)) : Yd y_Model_person [.ref 169, .int (nI i), .int (nI j), .int a, .int d] (hp F C J G) (.inl (some (.int (nI P)))) (hp F (maddP C P (24 * j + i) a d) J G) := by
  refine Yd_of (fun Q k => ?_)
  unfold Y
  have hm := m576 hF hi hj
  obtain ⟨r1, r2⟩ := r6' ha
  repeat (refine X_n rfl rfl rfl ?_)
  refine X_cd rfl rfl rfl rfl Y_isCell ?_
  refine X_z rfl (fun q => ?_) (fun q => ?_)
  · exact absurd (inC_yes hF hi hj) q
  repeat (refine X_n rfl rfl rfl ?_)
  refine X_bf rfl rfl rfl (Int32.not_le.mpr r1) ?_
  repeat (refine X_n rfl rfl rfl ?_)
  refine X_bf rfl rfl rfl (Int32.not_le.mpr r2) ?_
  repeat (refine X_n rfl rfl rfl ?_)
  refine X_bf rfl rfl rfl (Int32.not_lt.mpr hd.1) ?_
  repeat (refine X_n rfl rfl rfl ?_)
  refine X_bf rfl rfl rfl (Int32.not_lt.mpr hd.2) ?_
  repeat (refine X_n rfl rfl rfl ?_)
  refine X_bf rfl rfl rfl (show ¬ (1 : Int32) = 0 by decide) ?_
  repeat (refine X_n rfl rfl rfl ?_)
  refine X_cd rfl rfl rfl rfl (Y_mcell _) ?_
  repeat (refine X_n rfl rfl rfl ?_)
  refine X_bt rfl rfl rfl (show ¬ (1 : Int32) = 0 by decide) ?_
  repeat (refine X_n rfl rfl rfl ?_)
  refine X_lb rfl rfl rfl hF hm ?_
  rw [h0]
  refine X_bf rfl rfl rfl (fun h => h rfl) ?_
  repeat (refine X_n rfl rfl rfl ?_)
  refine X_la rfl rfl rfl hF hm ?_
  refine X_bf rfl rfl rfl (Int32.not_le.mpr h1) ?_
  repeat (refine X_n rfl rfl rfl ?_)
  refine X_k rfl rfl rfl rfl (Y_hasPerson hF (by omega) hP (fun hy => ?_) (fun _ => ?_))
  · obtain ⟨p, a1, a2⟩ := hy
    exact absurd a2 (hn p a1)
  refine X_bf rfl rfl rfl (fun h => h rfl) ?_
  repeat (refine X_n rfl rfl rfl ?_)
  refine X_bt rfl rfl rfl (show ¬ C 169 9 = 60 by rw [hP]; exact fun e => by have := (nI_eq (b := 60) (by omega) (by omega)).mp e; omega) ?_
  repeat (refine X_n rfl rfl rfl ?_)
  refine X_cd rfl rfl rfl rfl Y_refuses ?_
  refine X_z rfl (fun _ => ?_) (fun q => absurd q (by decide))
  repeat (refine X_n rfl rfl rfl ?_)
  refine X_sa (k := P) rfl rfl hP hF hP60 ?_
  repeat (refine X_n rfl rfl rfl ?_)
  refine X_sa (k := P) rfl rfl hP hF hP60 ?_
  repeat (refine X_n rfl rfl rfl ?_)
  refine X_sa (k := P) rfl rfl hP hF hP60 ?_
  repeat (refine X_n rfl rfl rfl ?_)
  refine X_sa (k := P) rfl rfl hP hF hP60 ?_
  iterate 5 (refine X_n rfl rfl rfl ?_)
  refine X_top (w := nI (P + 1)) (show C 169 9 + 1 = nI (P + 1) by rw [hP, nI_1]) ?_
  refine X_s rfl rfl ?_
  refine X_h (hp_f169_9 rfl) ?_
  repeat (refine X_n rfl rfl rfl ?_)
  refine X_cd rfl rfl rfl rfl Y_changed ?_
  repeat (refine X_n rfl rfl rfl ?_)
  refine X_top (w := nI P) (show nI (P + 1) - 1 = nI P from nI_pred P) ?_
  exact X_r rfl rfl rfl rfl k
theorem Y_mhabit_no {x e : Int32} (h : ¬ (0 ≤ x ∧ x < C 169 9) ∨ ¬ (-1 ≤ e ∧ e < C 169 7)) : Yd y_Model_habit [.ref 169, .int x, .int e] (hp F C J G) (.inl (some (.int 0))) (hp F (st C 169 0 1) J G) := by
  refine Yd_of (fun Q k => ?_)
  unfold Y
  repeat (refine X_n rfl rfl rfl ?_)
  refine X_b rfl rfl rfl (fun q1 => ?_) (fun q1 => ?_)
  · repeat (refine X_n rfl rfl rfl ?_)
    refine X_cd rfl rfl rfl rfl Y_refuses ?_
    refine X_z rfl (fun q => absurd (by decide) q) (fun _ => ?_)
    repeat (refine X_n rfl rfl rfl ?_)
    exact X_r rfl rfl rfl rfl k
  repeat (refine X_n rfl rfl rfl ?_)
  refine X_b rfl rfl rfl (fun q2 => ?_) (fun q2 => ?_)
  · repeat (refine X_n rfl rfl rfl ?_)
    refine X_cd rfl rfl rfl rfl Y_refuses ?_
    refine X_z rfl (fun q => absurd (by decide) q) (fun _ => ?_)
    repeat (refine X_n rfl rfl rfl ?_)
    exact X_r rfl rfl rfl rfl k
  repeat (refine X_n rfl rfl rfl ?_)
  have h := h.resolve_left (fun h => h ⟨Int32.not_lt.mp q1, Int32.not_le.mp q2⟩)
  refine X_b rfl rfl rfl (fun q3 => ?_) (fun q3 => ?_)
  · repeat (refine X_n rfl rfl rfl ?_)
    refine X_cd rfl rfl rfl rfl Y_refuses ?_
    refine X_z rfl (fun q => absurd (by decide) q) (fun _ => ?_)
    repeat (refine X_n rfl rfl rfl ?_)
    exact X_r rfl rfl rfl rfl k
  repeat (refine X_n rfl rfl rfl ?_)
  refine X_b rfl rfl rfl (fun q4 => ?_) (fun q4 => ?_)
  · exact absurd ⟨Int32.not_lt.mp q3, q4⟩ h
  · repeat (refine X_n rfl rfl rfl ?_)
    refine X_cd rfl rfl rfl rfl Y_refuses ?_
    refine X_z rfl (fun q => absurd (by decide) q) (fun _ => ?_)
    repeat (refine X_n rfl rfl rfl ?_)
    exact X_r rfl rfl rfl rfl k
theorem Y_mhabit {i P : Nat} {e : Int32} (hF : okF F) (hP60 : P ≤ 60) (hP : C 169 9 = nI P) (hi : i < P) (he : -1 ≤ e ∧ e < C 169 7) : Yd y_Model_habit [.ref 169, .int (nI i), .int e] (hp F C J G) (.inl (some (.int (C 178 i)))) (hp F (mch (st (st C 169 0 0) 178 i e)) J G) := by
  refine Yd_of (fun Q k => ?_)
  unfold Y
  repeat (refine X_n rfl rfl rfl ?_)
  refine X_bf rfl rfl rfl (nI_pos (by omega)) ?_
  repeat (refine X_n rfl rfl rfl ?_)
  refine X_bf rfl rfl rfl (show ¬ C 169 9 ≤ nI i by rw [hP]; exact nI_ge hi (by omega)) ?_
  repeat (refine X_n rfl rfl rfl ?_)
  refine X_bf rfl rfl rfl (Int32.not_lt.mpr he.1) ?_
  repeat (refine X_n rfl rfl rfl ?_)
  refine X_bt rfl rfl rfl he.2 ?_
  repeat (refine X_n rfl rfl rfl ?_)
  refine X_cd rfl rfl rfl rfl Y_refuses ?_
  refine X_z rfl (fun _ => ?_) (fun q => absurd q (by decide))
  repeat (refine X_n rfl rfl rfl ?_)
  refine X_la rfl rfl rfl hF (show i < 60 by omega) ?_
  repeat (refine X_n rfl rfl rfl ?_)
  refine X_sa rfl rfl rfl hF (show i < 60 by omega) ?_
  repeat (refine X_n rfl rfl rfl ?_)
  refine X_cd rfl rfl rfl rfl Y_changed ?_
  repeat (refine X_n rfl rfl rfl ?_)
  exact X_r rfl rfl rfl rfl k
end
