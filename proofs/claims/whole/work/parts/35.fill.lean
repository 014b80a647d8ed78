/-! arrays at cells whose number is a variable; Arrays.fill -/
section XR3
variable {y pc len tgt pc' a n k : Nat} {f : Nat → Int32} {j x : Int32} {L L' : mL} {S S' : List Value} {h h' : mH} {Q : mE → mH → Prop}
theorem X_li (h1 : m_at y pc = some (.iaload, 1, tgt)) (hh : h.1 a = mI n f) (hj : j = nI k) (hk : k < n) (hn : n < 2 ^ 31) (kk : X y (pc + 1) L (.int (f k) :: S) h Q) : X y pc L (.int j :: .ref a :: S) h Q :=
  X_ln (f := fun k => .int (f k)) h1 rfl rfl (by simp only [m_al, hh]) hj hk hn kk
theorem X_ti (h1 : m_at y pc = some (.iastore, 1, tgt)) (hh : h.1 a = mI n f) (ha : a < 1000000000) (hj : j = nI k) (hk : k < n) (hn : n < 2 ^ 31) (kk : X y (pc + 1) L S (m_set h a (mI n (upd f k x))) Q) : X y pc L (.int x :: .int j :: .ref a :: S) h Q :=
  X_tn (c := fun k => mI n (upd f k x)) h1 rfl rfl rfl (by
    have : decide (a < m_sB) = true := decide_eq_true ha
    simp only [m_as, hh, this]) hj hk hn kk
theorem X_len (h1 : m_at y pc = some (.arraylength, 1, tgt)) (hh : h.1 a = mI n f) (kk : X y (pc + 1) L (.int (nI n) :: S) h Q) : X y pc L (.ref a :: S) h Q :=
  X_s h1 (by simp only [m_step, hh]; rfl) kk
end XR3
theorem m_set_set (h : mH) (k : Nat) (a b : mC) : m_set (m_set h k a) k b = m_set h k b := by
  refine set_ext rfl ?_ (fun j hj => ?_)
  · show (if k = k then b else _) = b
    rw [if_pos rfl]
  · show (if j = k then b else h.1 j) = (if j = k then a else h.1 j)
    rw [if_neg hj, if_neg hj]
theorem m_set_self {h : mH} {k : Nat} {c : mC} (e : h.1 k = c) : m_set h k c = h := set_ext rfl e (fun _ _ => rfl)
theorem m_set_at (h : mH) (k : Nat) (c : mC) : (m_set h k c).1 k = c := if_pos rfl
/-- the first i places hold v -/
def flt (f : Nat → Int32) (v : Int32) (i : Nat) : Nat → Int32 := fun j => if j < i then v else f j
theorem flt_0 (f : Nat → Int32) (v : Int32) : flt f v 0 = f := by funext j; simp [flt]
theorem flt_s (f : Nat → Int32) (v : Int32) (i : Nat) : upd (flt f v i) i v = flt f v (i + 1) := by
  funext j
  simp only [upd, flt]
  by_cases e : j = i
  · subst e; rw [if_pos rfl, if_pos (by omega)]
  · rw [if_neg e]
    by_cases q : j < i
    · rw [if_pos q, if_pos (by omega)]
    · rw [if_neg q, if_neg (by omega)]
theorem Y_fill_loop {k n : Nat} {f : Nat → Int32} {v : Int32} {h : mH} {Q : mE → mH → Prop} (hk : k < 1000000000) (hn : n < 2 ^ 31) (kk : Q (.inl none) (m_set h k (mI n (flt f v n)))) :
    ∀ (d i : Nat), i + d = n → X y_Arrays_fill 5 [some (.ref k), some (.int v), some (.int (nI i)), some (.int (nI n))] [] (m_set h k (mI n (flt f v i))) Q := by
  intro d
  induction d with
  | zero =>
    intro i hi
    have : i = n := by omega
    subst this
    iterate 2 (refine X_s rfl rfl ?_)
    refine X_bt rfl rfl rfl (Int32.le_refl _) ?_
    exact X_r rfl rfl rfl rfl kk
  | succ d ih =>
    intro i hi
    iterate 2 (refine X_s rfl rfl ?_)
    refine X_bf rfl rfl rfl (nI_ge (by omega) hn) ?_
    iterate 3 (refine X_s rfl rfl ?_)
    refine X_ti rfl (m_set_at _ _ _) hk rfl (by omega) hn ?_
    refine X_h (m_set_set _ _ _ _) ?_
    rw [flt_s]
    iterate 2 (refine X_s rfl rfl ?_)
    have e := ih (i + 1) (by omega)
    rw [← nI_1'] at e
    exact e
theorem Y_fill {k n : Nat} {f : Nat → Int32} {v : Int32} {h : mH} (hh : h.1 k = mI n f) (hk : k < 1000000000) (hn : n < 2 ^ 31) : Yd y_Arrays_fill [.ref k, .int v] h (.inl none) (m_set h k (mI n (flt f v n))) := by
  refine Yd_of (fun Q kk => ?_)
  unfold Y
  iterate 3 (refine X_s rfl rfl ?_)
  refine X_len rfl hh ?_
  refine X_s rfl rfl ?_
  have e := Y_fill_loop (f := f) (v := v) (h := h) (Q := Q) hk hn kk n 0 (by omega)
  rw [flt_0, m_set_self hh] at e
  exact e
/-- all of an array is written -/
def stA (C : Ct) (k : Nat) (g : Nat → Int32) : Ct := fun k' => if k' = k then g else C k'
theorem stA_k {C : Ct} {k : Nat} {g : Nat → Int32} : stA C k g k = g := if_pos rfl
theorem stA_f {C : Ct} {k k' : Nat} {g : Nat → Int32} (h : k' ≠ k) : stA C k g k' = C k' := if_neg h
theorem stA_r {C : Ct} {k k' j : Nat} {g : Nat → Int32} : stA C k g k' j = if k' = k then g j else C k' j := by
  unfold stA; split <;> rfl
theorem st_eq {C : Ct} {k i : Nat} {v : Int32} : st C k i v = stA C k (upd (C k) i v) := rfl
theorem oth_stA {w h k j : Nat} {C : Ct} {J : Nat → Int64} {g : Nat → Int32} (hk : kd k = 1 ∨ kd k = 2) : oth w h (stA C k g) J j = oth w h C J j := by
  have h0 : k ≠ 0 ∧ k ≠ 1 ∧ k ≠ 23 ∧ k ≠ 29 ∧ k ≠ 169 := by
    refine ⟨?_, ?_, ?_, ?_, ?_⟩ <;> (rintro rfl; revert hk; decide)
  unfold oth
  split <;> simp [stA, Ne.symm h0.1, Ne.symm h0.2.1, Ne.symm h0.2.2.1, Ne.symm h0.2.2.2.1, Ne.symm h0.2.2.2.2]
theorem hp_stA {F : Fx} {C : Ct} {J : Nat → Int64} {G : Ex} {k n : Nat} {g : Nat → Int32} (hk : kd k = 1) (hn : n = ln (F.1 * F.2.1) k) : m_set (hp F C J G) k (mI n g) = hp F (stA C k g) J G := by
  have hlt := kd_lt (Or.inl hk)
  refine set_ext rfl ?_ (fun j hj => ?_)
  · show hf F (stA C k g) J G k = _
    rw [hf_lt hlt, sh, hk, stA_k, hn]
    rfl
  · show hf F (stA C k g) J G j = hf F C J G j
    by_cases q : j < 194
    · rw [hf_lt q, hf_lt q]
      unfold sh
      rw [oth_stA (Or.inl hk), stA_f hj]
    · exact hf_ge q
theorem hp_at {F : Fx} {C : Ct} {J : Nat → Int64} {G : Ex} {k n : Nat} (hk : kd k = 1) (hn : n = ln (F.1 * F.2.1) k) : (hp F C J G).1 k = mI n (C k) := by
  show hf F C J G k = _
  rw [hf_lt (kd_lt (Or.inl hk)), sh, hk, hn]
  rfl
/-- Arrays.fill on one of the arrays -/
theorem Y_fillC {F : Fx} {C : Ct} {J : Nat → Int64} {G : Ex} {k n : Nat} {v : Int32} (hk : kd k = 1) (hn : n = ln (F.1 * F.2.1) k) (hn2 : n < 2 ^ 31) : Yd y_Arrays_fill [.ref k, .int v] (hp F C J G) (.inl none) (hp F (stA C k (flt (C k) v n)) J G) := by
  have h := Y_fill (v := v) (hp_at (J := J) (G := G) (C := C) hk hn) (Nat.lt_trans (kd_lt (Or.inl hk)) (by decide)) hn2
  rw [hp_stA hk hn] at h
  exact h
theorem kd_row : ∀ e, e < 9 → kd (12 + e) = 1 ∧ lc (12 + e) = 0 := by decide
theorem kd_ss : ∀ p, p < 60 → kd (39 + p) = 1 ∧ lc (39 + p) = 0 := by decide
theorem kd_sc : ∀ p, p < 60 → kd (100 + p) = 1 ∧ lc (100 + p) = 0 := by decide
theorem ln_0 {n k : Nat} (h : lc k = 0) : n = ln n k := by unfold ln; rw [h]; rfl
