/-! both objects are made, and the law goes its way -/
theorem side_of (a : Int32) : ∃ w, (2 ≤ w ∧ w ≤ 24) ∧ (if 2 < (if a < 24 then a else 24) then (if a < 24 then a else 24) else 2) = nI w ∧ (a < 2 → w = 2) ∧ (24 < a → w = 24) ∧ (¬ a < 2 → ¬ 24 < a → a = nI w) := by
  by_cases q1 : a < 2
  · refine ⟨2, by omega, ?_, fun _ => rfl, fun g => absurd (Int32.lt_trans g q1) (by decide), fun g => absurd q1 g⟩
    rw [if_pos (Int32.lt_trans q1 (by decide)), if_neg (fun g => i32_irr _ (Int32.lt_trans g q1))]
    rfl
  by_cases q2 : 24 < a
  · refine ⟨24, by omega, ?_, fun g => absurd g q1, fun _ => rfl, fun _ g => absurd q2 g⟩
    rw [if_neg (fun g => i32_irr _ (Int32.lt_trans g q2)), if_pos (by decide)]
    rfl
  have h1 := Int32.not_lt.mp q1
  have h2 := Int32.not_lt.mp q2
  obtain ⟨w, hw, e⟩ := i32_rng (m := 24) (by omega) (Int32.le_trans (by decide) h1) h2
  have hw2 : 2 ≤ w := by
    rw [e] at h1
    exact (nI_leI (a := 2) (by omega) (by omega)).mp h1
  refine ⟨w, ⟨hw2, hw⟩, ?_, fun g => absurd g q1, fun g => absurd g q2, fun _ _ => e⟩
  have e24 : (if a < 24 then a else 24) = a := by
    by_cases q : a < 24
    · rw [if_pos q]
    · rw [if_neg q]
      exact Int32.le_antisymm (Int32.not_lt.mp q) h2
  rw [e24]
  by_cases q : 2 < a
  · rw [if_pos q, e]
  · rw [if_neg q]
    rw [← e]
    exact Int32.le_antisymm h1 (Int32.not_lt.mp q)
section
variable {L s w h : Nat} {xs x y b : Nat → Int32} {e : mC} {Q : mE → mH → Prop} {a1 a2 : Int32}
/-- the reference, its two loops done up to i -/
def mdl (w h : Nat) (x y b : Nat → Int32) (e : mC) (i k : Nat) : mC := bif Nat.beq k 171 then mI 576 (flt (fun _ => 0) (-1) i) else bif Nat.beq k 173 then mI 576 (flt (fun _ => 0) (-1) i) else stg w h x y b e k
theorem mdl_s {i : Nat} : m_set (m_set (bh L xs 193 (mdl w h x y b e i) s) 171 (mI 576 (upd (flt (fun _ => 0) (-1) i) i (Int32.ofInt (-1))))) 173 (mI 576 (upd (flt (fun _ => 0) (-1) i) i (Int32.ofInt (-1)))) = bh L xs 193 (mdl w h x y b e (i + 1)) s := by
  rw [bh_set (by omega), bh_set (by omega)]
  refine bh_ext fun k _ => ?_
  unfold mdl
  rw [show upd (flt (fun _ => 0) (-1) i) i (Int32.ofInt (-1)) = flt (fun _ => 0) (-1) (i + 1) from flt_s _ _ _]
  cases e1 : Nat.beq k 171 with
  | true =>
    have : k = 171 := Nat.eq_of_beq_eq_true e1
    subst this
    rfl
  | false =>
    cases e2 : Nat.beq k 173 with
    | true => rfl
    | false => rfl
theorem Y_Model_loop (kk : Q (.inl none) (bh L xs 193 (mdl w h x y b e 576) s)) :
    ∀ d i, i + d = 576 → X y_Model_init 250 [some (.ref 169), some (.int a1), some (.int a2), some (.int (nI i))] [] (bh L xs 193 (mdl w h x y b e i) s) Q := by
  intro d
  induction d with
  | zero =>
    intro i hd
    have : i = 576 := by omega
    subst this
    repeat (refine X_n rfl rfl rfl ?_)
    refine X_bt rfl rfl rfl (Int32.le_refl _) ?_
    exact X_r rfl rfl rfl rfl kk
  | succ d ih =>
    intro i hd
    repeat (refine X_n rfl rfl rfl ?_)
    refine X_bf rfl rfl rfl (show ¬ nI 576 ≤ nI i from nI_ge (by omega) (by omega)) ?_
    repeat (refine X_n rfl rfl rfl ?_)
    refine X_ti (k := i) (n := 576) (f := flt (fun _ => 0) (-1) i) rfl rfl (by omega) rfl (by omega) (by omega) ?_
    repeat (refine X_n rfl rfl rfl ?_)
    refine X_ti (k := i) (n := 576) (f := flt (fun _ => 0) (-1) i) rfl rfl (by omega) rfl (by omega) (by omega) ?_
    rw [mdl_s]
    iterate 2 (refine X_n rfl rfl rfl ?_)
    rw [nI_1']
    exact ih (i + 1) (by omega)
theorem Y_Model1 (hn : w * h ≤ 576) (hw2 : a1 < 2 → w = 2) (hw3 : 24 < a1 → w = 24) (hw4 : ¬ a1 < 2 → ¬ 24 < a1 → a1 = nI w) (hh2 : a2 < 2 → h = 2) (hh3 : 24 < a2 → h = 24) (hh4 : ¬ a2 < 2 → ¬ 24 < a2 → a2 = nI h)
    (kk : Q (.inl none) (bh L xs 193 (stg w h x y b e) (s + 576 + 576 + 576 + 576 + 8 + 60 + 60 + 60 + 60 + 5184 + 576 + 60 + 60 + 60 + 60 + 36000 + 36000 + 60 + 576 + 576 + 576 + 60 + 4096))) : Y y_Model_init [.ref 169, .int a1, .int a2] (bh L xs 170 (fun k => bif Nat.beq k 169 then mO 6 (m_df 6) else stg w h x y b e k) s) Q := by
  unfold Y
  repeat (refine X_n rfl rfl rfl ?_)
  refine X_top (w := nI 576) (by decide) ?_
  refine X_m rfl rfl rfl rfl rfl (m_if_t ⟨nI_pos (by omega), by rw [nI_clamp (by omega)]; omega⟩) ?_
  refine X_tr (b := 170) rfl ?_
  rw [nI_clamp (by omega), bh_push (by omega)]
  repeat (refine X_n rfl rfl rfl ?_)
  refine X_s rfl rfl ?_
  rw [bh_set (by omega)]
  repeat (refine X_n rfl rfl rfl ?_)
  refine X_top (w := nI 576) (by decide) ?_
  refine X_m rfl rfl rfl rfl rfl (m_if_t ⟨nI_pos (by omega), by rw [nI_clamp (by omega)]; omega⟩) ?_
  refine X_tr (b := 171) rfl ?_
  rw [nI_clamp (by omega), bh_push (by omega)]
  repeat (refine X_n rfl rfl rfl ?_)
  refine X_s rfl rfl ?_
  rw [bh_set (by omega)]
  repeat (refine X_n rfl rfl rfl ?_)
  refine X_top (w := nI 576) (by decide) ?_
  refine X_m rfl rfl rfl rfl rfl (m_if_t ⟨nI_pos (by omega), by rw [nI_clamp (by omega)]; omega⟩) ?_
  refine X_tr (b := 172) rfl ?_
  rw [nI_clamp (by omega), bh_push (by omega)]
  repeat (refine X_n rfl rfl rfl ?_)
  refine X_s rfl rfl ?_
  rw [bh_set (by omega)]
  repeat (refine X_n rfl rfl rfl ?_)
  refine X_top (w := nI 576) (by decide) ?_
  refine X_m rfl rfl rfl rfl rfl (m_if_t ⟨nI_pos (by omega), by rw [nI_clamp (by omega)]; omega⟩) ?_
  refine X_tr (b := 173) rfl ?_
  rw [nI_clamp (by omega), bh_push (by omega)]
  repeat (refine X_n rfl rfl rfl ?_)
  refine X_s rfl rfl ?_
  rw [bh_set (by omega)]
  repeat (refine X_n rfl rfl rfl ?_)
  refine X_top (w := nI 8) (by decide) ?_
  refine X_m rfl rfl rfl rfl rfl (m_if_t ⟨nI_pos (by omega), by rw [nI_clamp (by omega)]; omega⟩) ?_
  refine X_tr (b := 174) rfl ?_
  rw [nI_clamp (by omega), bh_push (by omega)]
  repeat (refine X_n rfl rfl rfl ?_)
  refine X_s rfl rfl ?_
  rw [bh_set (by omega)]
  repeat (refine X_n rfl rfl rfl ?_)
  refine X_top (w := nI 60) (by decide) ?_
  refine X_m rfl rfl rfl rfl rfl (m_if_t ⟨nI_pos (by omega), by rw [nI_clamp (by omega)]; omega⟩) ?_
  refine X_tr (b := 175) rfl ?_
  rw [nI_clamp (by omega), bh_push (by omega)]
  repeat (refine X_n rfl rfl rfl ?_)
  refine X_s rfl rfl ?_
  rw [bh_set (by omega)]
  repeat (refine X_n rfl rfl rfl ?_)
  refine X_top (w := nI 60) (by decide) ?_
  refine X_m rfl rfl rfl rfl rfl (m_if_t ⟨nI_pos (by omega), by rw [nI_clamp (by omega)]; omega⟩) ?_
  refine X_tr (b := 176) rfl ?_
  rw [nI_clamp (by omega), bh_push (by omega)]
  repeat (refine X_n rfl rfl rfl ?_)
  refine X_s rfl rfl ?_
  rw [bh_set (by omega)]
  repeat (refine X_n rfl rfl rfl ?_)
  refine X_top (w := nI 60) (by decide) ?_
  refine X_m rfl rfl rfl rfl rfl (m_if_t ⟨nI_pos (by omega), by rw [nI_clamp (by omega)]; omega⟩) ?_
  refine X_tr (b := 177) rfl ?_
  rw [nI_clamp (by omega), bh_push (by omega)]
  repeat (refine X_n rfl rfl rfl ?_)
  refine X_s rfl rfl ?_
  rw [bh_set (by omega)]
  repeat (refine X_n rfl rfl rfl ?_)
  refine X_top (w := nI 60) (by decide) ?_
  refine X_m rfl rfl rfl rfl rfl (m_if_t ⟨nI_pos (by omega), by rw [nI_clamp (by omega)]; omega⟩) ?_
  refine X_tr (b := 178) rfl ?_
  rw [nI_clamp (by omega), bh_push (by omega)]
  repeat (refine X_n rfl rfl rfl ?_)
  refine X_s rfl rfl ?_
  rw [bh_set (by omega)]
  repeat (refine X_n rfl rfl rfl ?_)
  refine X_top (w := nI 5184) (by decide) ?_
  refine X_m rfl rfl rfl rfl rfl (m_if_t ⟨nI_pos (by omega), by rw [nI_clamp (by omega)]; omega⟩) ?_
  refine X_tr (b := 179) rfl ?_
  rw [nI_clamp (by omega), bh_push (by omega)]
  repeat (refine X_n rfl rfl rfl ?_)
  refine X_s rfl rfl ?_
  rw [bh_set (by omega)]
  repeat (refine X_n rfl rfl rfl ?_)
  refine X_top (w := nI 576) (by decide) ?_
  refine X_m rfl rfl rfl rfl rfl (m_if_t ⟨nI_pos (by omega), by rw [nI_clamp (by omega)]; omega⟩) ?_
  refine X_tr (b := 180) rfl ?_
  rw [nI_clamp (by omega), bh_push (by omega)]
  repeat (refine X_n rfl rfl rfl ?_)
  refine X_s rfl rfl ?_
  rw [bh_set (by omega)]
  repeat (refine X_n rfl rfl rfl ?_)
  refine X_top (w := nI 60) (by decide) ?_
  refine X_m rfl rfl rfl rfl rfl (m_if_t ⟨nI_pos (by omega), by rw [nI_clamp (by omega)]; omega⟩) ?_
  refine X_tr (b := 181) rfl ?_
  rw [nI_clamp (by omega), bh_push (by omega)]
  repeat (refine X_n rfl rfl rfl ?_)
  refine X_s rfl rfl ?_
  rw [bh_set (by omega)]
  repeat (refine X_n rfl rfl rfl ?_)
  refine X_top (w := nI 60) (by decide) ?_
  refine X_m rfl rfl rfl rfl rfl (m_if_t ⟨nI_pos (by omega), by rw [nI_clamp (by omega)]; omega⟩) ?_
  refine X_tr (b := 182) rfl ?_
  rw [nI_clamp (by omega), bh_push (by omega)]
  repeat (refine X_n rfl rfl rfl ?_)
  refine X_s rfl rfl ?_
  rw [bh_set (by omega)]
  repeat (refine X_n rfl rfl rfl ?_)
  refine X_top (w := nI 60) (by decide) ?_
  refine X_m rfl rfl rfl rfl rfl (m_if_t ⟨nI_pos (by omega), by rw [nI_clamp (by omega)]; omega⟩) ?_
  refine X_tr (b := 183) rfl ?_
  rw [nI_clamp (by omega), bh_push (by omega)]
  repeat (refine X_n rfl rfl rfl ?_)
  refine X_s rfl rfl ?_
  rw [bh_set (by omega)]
  repeat (refine X_n rfl rfl rfl ?_)
  refine X_top (w := nI 60) (by decide) ?_
  refine X_m rfl rfl rfl rfl rfl (m_if_t ⟨nI_pos (by omega), by rw [nI_clamp (by omega)]; omega⟩) ?_
  refine X_tr (b := 184) rfl ?_
  rw [nI_clamp (by omega), bh_push (by omega)]
  repeat (refine X_n rfl rfl rfl ?_)
  refine X_s rfl rfl ?_
  rw [bh_set (by omega)]
  repeat (refine X_n rfl rfl rfl ?_)
  refine X_top (w := nI 36000) (by decide) ?_
  refine X_m rfl rfl rfl rfl rfl (m_if_t ⟨nI_pos (by omega), by rw [nI_clamp (by omega)]; omega⟩) ?_
  refine X_tr (b := 185) rfl ?_
  rw [nI_clamp (by omega), bh_push (by omega)]
  repeat (refine X_n rfl rfl rfl ?_)
  refine X_s rfl rfl ?_
  rw [bh_set (by omega)]
  repeat (refine X_n rfl rfl rfl ?_)
  refine X_top (w := nI 36000) (by decide) ?_
  refine X_m rfl rfl rfl rfl rfl (m_if_t ⟨nI_pos (by omega), by rw [nI_clamp (by omega)]; omega⟩) ?_
  refine X_tr (b := 186) rfl ?_
  rw [nI_clamp (by omega), bh_push (by omega)]
  repeat (refine X_n rfl rfl rfl ?_)
  refine X_s rfl rfl ?_
  rw [bh_set (by omega)]
  repeat (refine X_n rfl rfl rfl ?_)
  refine X_top (w := nI 60) (by decide) ?_
  refine X_m rfl rfl rfl rfl rfl (m_if_t ⟨nI_pos (by omega), by rw [nI_clamp (by omega)]; omega⟩) ?_
  refine X_tr (b := 187) rfl ?_
  rw [nI_clamp (by omega), bh_push (by omega)]
  repeat (refine X_n rfl rfl rfl ?_)
  refine X_s rfl rfl ?_
  rw [bh_set (by omega)]
  repeat (refine X_n rfl rfl rfl ?_)
  refine X_top (w := nI 576) (by decide) ?_
  refine X_m rfl rfl rfl rfl rfl (m_if_t ⟨nI_pos (by omega), by rw [nI_clamp (by omega)]; omega⟩) ?_
  refine X_tr (b := 188) rfl ?_
  rw [nI_clamp (by omega), bh_push (by omega)]
  repeat (refine X_n rfl rfl rfl ?_)
  refine X_s rfl rfl ?_
  rw [bh_set (by omega)]
  repeat (refine X_n rfl rfl rfl ?_)
  refine X_top (w := nI 576) (by decide) ?_
  refine X_m rfl rfl rfl rfl rfl (m_if_t ⟨nI_pos (by omega), by rw [nI_clamp (by omega)]; omega⟩) ?_
  refine X_tr (b := 189) rfl ?_
  rw [nI_clamp (by omega), bh_push (by omega)]
  repeat (refine X_n rfl rfl rfl ?_)
  refine X_s rfl rfl ?_
  rw [bh_set (by omega)]
  repeat (refine X_n rfl rfl rfl ?_)
  refine X_top (w := nI 576) (by decide) ?_
  refine X_m rfl rfl rfl rfl rfl (m_if_t ⟨nI_pos (by omega), by rw [nI_clamp (by omega)]; omega⟩) ?_
  refine X_tr (b := 190) rfl ?_
  rw [nI_clamp (by omega), bh_push (by omega)]
  repeat (refine X_n rfl rfl rfl ?_)
  refine X_s rfl rfl ?_
  rw [bh_set (by omega)]
  repeat (refine X_n rfl rfl rfl ?_)
  refine X_top (w := nI 60) (by decide) ?_
  refine X_m rfl rfl rfl rfl rfl (m_if_t ⟨nI_pos (by omega), by rw [nI_clamp (by omega)]; omega⟩) ?_
  refine X_tr (b := 191) rfl ?_
  rw [nI_clamp (by omega), bh_push (by omega)]
  repeat (refine X_n rfl rfl rfl ?_)
  refine X_s rfl rfl ?_
  rw [bh_set (by omega)]
  repeat (refine X_n rfl rfl rfl ?_)
  refine X_top (w := nI 4096) (by decide) ?_
  refine X_m rfl rfl rfl rfl rfl (m_if_t ⟨nI_pos (by omega), by rw [nI_clamp (by omega)]; omega⟩) ?_
  refine X_tr (b := 192) rfl ?_
  rw [nI_clamp (by omega), bh_push (by omega)]
  repeat (refine X_n rfl rfl rfl ?_)
  refine X_s rfl rfl ?_
  rw [bh_set (by omega)]
  have wide : ∀ (H : mH), X y_Model_init 220 [some (.ref 169), some (.int a1), some (.int a2), none] [.int (nI w), .ref 169] H Q → X y_Model_init 198 [some (.ref 169), some (.int a1), some (.int a2), none] [] H Q := by
    intro H kk
    repeat (refine X_n rfl rfl rfl ?_)
    by_cases q1 : a1 < 2
    · refine X_bf rfl rfl rfl (show ¬ (2 : Int32) ≤ a1 from Int32.not_le.mpr q1) ?_
      iterate 2 (refine X_n rfl rfl rfl ?_)
      refine X_top (w := nI w) (by rw [hw2 q1]; rfl) ?_
      exact kk
    · refine X_bt rfl rfl rfl (show (2 : Int32) ≤ a1 from Int32.not_lt.mp q1) ?_
      repeat (refine X_n rfl rfl rfl ?_)
      by_cases q2 : (24 : Int32) < a1
      · refine X_bf rfl rfl rfl (show ¬ a1 ≤ 24 from Int32.not_le.mpr q2) ?_
        iterate 2 (refine X_n rfl rfl rfl ?_)
        refine X_top (w := nI w) (by rw [hw3 q2]; rfl) ?_
        exact kk
      · refine X_bt rfl rfl rfl (show a1 ≤ 24 from Int32.not_lt.mp q2) ?_
        iterate 1 (refine X_n rfl rfl rfl ?_)
        refine X_top (w := nI w) (hw4 q1 q2) ?_
        exact kk
  have high : ∀ (H : mH), X y_Model_init 245 [some (.ref 169), some (.int a1), some (.int a2), none] [.int (nI h), .ref 169] H Q → X y_Model_init 223 [some (.ref 169), some (.int a1), some (.int a2), none] [] H Q := by
    intro H kk
    repeat (refine X_n rfl rfl rfl ?_)
    by_cases q1 : a2 < 2
    · refine X_bf rfl rfl rfl (show ¬ (2 : Int32) ≤ a2 from Int32.not_le.mpr q1) ?_
      iterate 2 (refine X_n rfl rfl rfl ?_)
      refine X_top (w := nI h) (by rw [hh2 q1]; rfl) ?_
      exact kk
    · refine X_bt rfl rfl rfl (show (2 : Int32) ≤ a2 from Int32.not_lt.mp q1) ?_
      repeat (refine X_n rfl rfl rfl ?_)
      by_cases q2 : (24 : Int32) < a2
      · refine X_bf rfl rfl rfl (show ¬ a2 ≤ 24 from Int32.not_le.mpr q2) ?_
        iterate 2 (refine X_n rfl rfl rfl ?_)
        refine X_top (w := nI h) (by rw [hh3 q2]; rfl) ?_
        exact kk
      · refine X_bt rfl rfl rfl (show a2 ≤ 24 from Int32.not_lt.mp q2) ?_
        iterate 1 (refine X_n rfl rfl rfl ?_)
        refine X_top (w := nI h) (hh4 q1 q2) ?_
        exact kk
  refine wide _ ?_
  refine X_s rfl rfl ?_
  rw [bh_set (by omega)]
  refine high _ ?_
  refine X_s rfl rfl ?_
  rw [bh_set (by omega)]
  iterate 2 (refine X_n rfl rfl rfl ?_)
  rw [bh_ext (g := mdl w h x y b e 0)]
  · refine Y_Model_loop ?_ 576 0 (by omega)
    rw [bh_ext (g := stg w h x y b e)]
    · exact kk
    · repeat (refine all_s rfl ?_)
      exact all_0
  · repeat (refine all_s rfl ?_)
    exact all_0
theorem Y_EscI (hw : (2 ≤ w ∧ w ≤ 24) ∧ (if 2 < (if a1 < 24 then a1 else 24) then (if a1 < 24 then a1 else 24) else 2) = nI w) (hh : (2 ≤ h ∧ h ≤ 24) ∧ (if 2 < (if a2 < 24 then a2 else 24) then (if a2 < 24 then a2 else 24) else 2) = nI h)
    (kk : ∀ x y b s', laid w h (w * h) x y b → s' ≤ 100000 → Q (.inl none) (bh L xs 169 (sh w h (C00 w h x y b) (fun _ => 0)) s')) :
    Y y_Esc_init [.ref 0, .int a1, .int a2] (bh L xs 1 (fun _ => mO 5 (m_df 5)) 6) Q := by
  have hn : w * h ≤ 576 := Nat.mul_le_mul hw.1.2 hh.1.2
  unfold Y
  iterate 3 (refine X_n rfl rfl rfl ?_)
  refine X_n rfl rfl rfl ?_
  refine X_tr (b := 1) rfl ?_
  rw [bh_push (by omega)]
  repeat (refine X_n rfl rfl rfl ?_)
  refine X_cd rfl rfl rfl rfl Y_sideOf ?_
  rw [hw.2]
  repeat (refine X_n rfl rfl rfl ?_)
  refine X_cd rfl rfl rfl rfl Y_sideOf ?_
  rw [hh.2]
  refine X_h (bh_ext (g := fun k => match k with | 0 => mO 5 (m_df 5) | _ => mO 4 (m_df 4)) ?_) ?_
  · repeat (refine all_s rfl ?_)
    exact all_0
  refine X_k rfl rfl rfl rfl (Y_Storey hw.1 hh.1 (fun x y b hl => ?_))
  dsimp only
  refine X_h (bh_ext (g := stg w h x y b (mO 5 (m_df 5))) ?_) ?_
  · repeat (refine all_s rfl ?_)
    exact all_0
  refine X_s rfl rfl ?_
  rw [bh_set (by omega)]
  refine X_h (bh_ext (g := stg w h x y b (mO 5 [.ref 1, .null, .null, .null, .null, .int 0])) ?_) ?_
  · repeat (refine all_s rfl ?_)
    exact all_0
  iterate 1 (refine X_n rfl rfl rfl ?_)
  refine X_n rfl rfl rfl ?_
  refine X_tr (b := 10) rfl ?_
  rw [bh_push (by omega)]
  repeat (refine X_n rfl rfl rfl ?_)
  refine X_k rfl rfl rfl rfl (Y_Numbers (x := x) (y := y) (b := b) (e := mO 5 [.ref 1, .null, .null, .null, .null, .int 0]) hn ?_)
  dsimp only
  refine X_s rfl rfl ?_
  rw [bh_set (by omega)]
  refine X_h (bh_ext (g := stg w h x y b (mO 5 [.ref 1, .ref 10, .null, .null, .null, .int 0])) ?_) ?_
  · repeat (refine all_s rfl ?_)
    exact all_0
  iterate 1 (refine X_n rfl rfl rfl ?_)
  refine X_n rfl rfl rfl ?_
  refine X_tr (b := 23) rfl ?_
  rw [bh_push (by omega)]
  repeat (refine X_n rfl rfl rfl ?_)
  refine X_k rfl rfl rfl rfl (Y_People (x := x) (y := y) (b := b) (e := mO 5 [.ref 1, .ref 10, .null, .null, .null, .int 0]) hn ?_)
  dsimp only
  refine X_s rfl rfl ?_
  rw [bh_set (by omega)]
  refine X_h (bh_ext (g := stg w h x y b (mO 5 [.ref 1, .ref 10, .ref 23, .null, .null, .int 0])) ?_) ?_
  · repeat (refine all_s rfl ?_)
    exact all_0
  iterate 1 (refine X_n rfl rfl rfl ?_)
  refine X_n rfl rfl rfl ?_
  refine X_tr (b := 29) rfl ?_
  rw [bh_push (by omega)]
  repeat (refine X_n rfl rfl rfl ?_)
  refine X_k rfl rfl rfl rfl (Y_Flight (x := x) (y := y) (b := b) (e := mO 5 [.ref 1, .ref 10, .ref 23, .null, .null, .int 0]) hn ?_)
  dsimp only
  refine X_s rfl rfl ?_
  rw [bh_set (by omega)]
  refine X_h (bh_ext (g := stg w h x y b (mO 5 [.ref 1, .ref 10, .ref 23, .ref 29, .null, .int 0])) ?_) ?_
  · repeat (refine all_s rfl ?_)
    exact all_0
  iterate 1 (refine X_n rfl rfl rfl ?_)
  refine X_n rfl rfl rfl ?_
  refine X_tr (b := 164) rfl ?_
  rw [bh_push (by omega)]
  repeat (refine X_n rfl rfl rfl ?_)
  refine X_k rfl rfl rfl rfl (Y_Signposts (x := x) (y := y) (b := b) (e := mO 5 [.ref 1, .ref 10, .ref 23, .ref 29, .null, .int 0]) hn ?_)
  dsimp only
  refine X_s rfl rfl ?_
  rw [bh_set (by omega)]
  repeat (refine X_n rfl rfl rfl ?_)
  refine X_s rfl rfl ?_
  rw [bh_set (by omega)]
  refine X_h (bh_ext (g := sh w h (C00 w h x y b) (fun _ => 0)) ?_) ?_
  · repeat (refine all_s rfl ?_)
    exact all_0
  refine X_r rfl rfl rfl rfl (kk x y b _ hl ?_)
  show 6 + 12 + w * h + w * h + w * h + w * h + 8 + w * h + w * h + w * h * 4 + 4 + (9 + 9 * (w * h)) + 9 + w * h + 6 + 60 + 60 + 60 + 60 + w * h + 19 + 60 + 60 + 60 + 60 + w * h + 60 + 60 + 60 + (60 + 60 * (w * h)) + (60 + 60 * (w * h)) + w * h + w * h + w * h + 60 + 5 + 12 + w * h + 156 + 4096 ≤ 100000
  omega
end
