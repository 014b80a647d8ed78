/-! Storey: its small methods -/
section
variable {F : Fx} {C : Ct} {J : Nat → Int64} {G : Ex} {h : mH}
theorem Y_isWithin {a b c : Int32} : Yd y_Esc_isWithin [.int a, .int b, .int c] h (.inl (some (.int (bI (decide (b ≤ a ∧ a ≤ c)))))) h := by
  refine Yd_of (fun Q k => ?_)
  unfold Y
  repeat (refine X_s rfl rfl ?_)
  refine X_b rfl rfl rfl (fun q => ?_) (fun q => ?_)
  · repeat (refine X_s rfl rfl ?_)
    refine X_r rfl rfl rfl rfl ?_
    rw [decide_eq_false (fun h => Int32.not_lt.mpr h.1 q)] at k; exact k
  · repeat (refine X_s rfl rfl ?_)
    refine X_b rfl rfl rfl (fun q2 => ?_) (fun q2 => ?_)
    · repeat (refine X_s rfl rfl ?_)
      refine X_r rfl rfl rfl rfl ?_
      rw [decide_eq_false (fun h => Int32.not_lt.mpr h.2 q2)] at k; exact k
    · repeat (refine X_s rfl rfl ?_)
      refine X_r rfl rfl rfl rfl ?_
      rw [decide_eq_true ⟨Int32.not_lt.mp q, Int32.not_lt.mp q2⟩] at k; exact k
/-- a cell of the storey: its number -/
theorem Y_cellOf {i j : Nat} (hF : okF F) (hi : i < F.1) (hj : j < F.2.1) : Yd y_Storey_cellOf [.ref 1, .int (nI i), .int (nI j)] (hp F C J G) (.inl (some (.int (nI (j * F.1 + i))))) (hp F C J G) := by
  obtain ⟨⟨f1, f2⟩, ⟨f3, f4⟩, -⟩ := hF
  refine Yd_of (fun Q k => ?_)
  unfold Y
  repeat (refine X_s rfl rfl ?_)
  refine X_b rfl rfl rfl (fun q => absurd q (nI_pos (by omega))) (fun _ => ?_)
  repeat (refine X_s rfl rfl ?_)
  refine X_b rfl rfl rfl (fun q => absurd q (nI_ge hi (by omega))) (fun _ => ?_)
  repeat (refine X_s rfl rfl ?_)
  refine X_b rfl rfl rfl (fun q => absurd q (nI_pos (by omega))) (fun _ => ?_)
  repeat (refine X_s rfl rfl ?_)
  refine X_b rfl rfl rfl (fun q => ?_) (fun q => absurd (nI_lt hj (by omega)) q)
  repeat (refine X_s rfl rfl ?_)
  refine X_r rfl rfl rfl rfl ?_
  rw [show nI j * nI F.1 + nI i = nI (j * F.1 + i) by rw [pk_mul, nI_add]]
  exact k
/-- no cell of the storey -/
theorem Y_cellOf_no {x z : Int32} (hF : okF F) (hn : x < 0 ∨ nI F.1 ≤ x ∨ z < 0 ∨ nI F.2.1 ≤ z) : Yd y_Storey_cellOf [.ref 1, .int x, .int z] (hp F C J G) (.inl (some (.int (-1)))) (hp F C J G) := by
  refine Yd_of (fun Q k => ?_)
  unfold Y
  repeat (refine X_s rfl rfl ?_)
  refine X_b rfl rfl rfl (fun q1 => ?_) (fun q1 => ?_)
  · repeat (refine X_s rfl rfl ?_)
    exact X_r rfl rfl rfl rfl k
  repeat (refine X_s rfl rfl ?_)
  refine X_b rfl rfl rfl (fun q2 => ?_) (fun q2 => ?_)
  · repeat (refine X_s rfl rfl ?_)
    exact X_r rfl rfl rfl rfl k
  repeat (refine X_s rfl rfl ?_)
  refine X_b rfl rfl rfl (fun q3 => ?_) (fun q3 => ?_)
  · repeat (refine X_s rfl rfl ?_)
    exact X_r rfl rfl rfl rfl k
  repeat (refine X_s rfl rfl ?_)
  refine X_b rfl rfl rfl (fun q4 => ?_) (fun q4 => ?_)
  · exfalso
    rcases hn with q | q | q | q
    · exact q1 q
    · exact q2 q
    · exact q3 q
    · exact Int32.not_lt.mpr q q4
  · repeat (refine X_s rfl rfl ?_)
    exact X_r rfl rfl rfl rfl k
theorem Y_isWall {c : Nat} (hF : okF F) (hc : c < F.1 * F.2.1) : Yd y_Storey_isWall [.ref 1, .int (nI c)] (hp F C J G) (.inl (some (.int (bI (decide (C 2 c = 1)))))) (hp F C J G) := by
  have hn := hF.n
  refine Yd_of (fun Q k => ?_)
  unfold Y
  repeat (refine X_s rfl rfl ?_)
  refine X_ln rfl rfl rfl rfl rfl hc (show F.1 * F.2.1 < 2 ^ 31 by omega) ?_
  repeat (refine X_s rfl rfl ?_)
  refine X_b rfl rfl rfl (fun q => ?_) (fun q => ?_)
  · repeat (refine X_s rfl rfl ?_)
    refine X_r rfl rfl rfl rfl ?_
    rw [decide_eq_false (by exact q)] at k; exact k
  · repeat (refine X_s rfl rfl ?_)
    refine X_r rfl rfl rfl rfl ?_
    rw [show decide (C 2 c = 1) = true from decide_eq_true (Decidable.not_not.mp q)] at k; exact k
theorem Y_isExit {c : Nat} (hF : okF F) (hc : c < F.1 * F.2.1) : Yd y_Storey_isExit [.ref 1, .int (nI c)] (hp F C J G) (.inl (some (.int (bI (decide (C 2 c = 2)))))) (hp F C J G) := by
  have hn := hF.n
  refine Yd_of (fun Q k => ?_)
  unfold Y
  repeat (refine X_s rfl rfl ?_)
  refine X_ln rfl rfl rfl rfl rfl hc (show F.1 * F.2.1 < 2 ^ 31 by omega) ?_
  repeat (refine X_s rfl rfl ?_)
  refine X_b rfl rfl rfl (fun q => ?_) (fun q => ?_)
  · repeat (refine X_s rfl rfl ?_)
    refine X_r rfl rfl rfl rfl ?_
    rw [decide_eq_false (by exact q)] at k; exact k
  · repeat (refine X_s rfl rfl ?_)
    refine X_r rfl rfl rfl rfl ?_
    rw [show decide (C 2 c = 2) = true from decide_eq_true (Decidable.not_not.mp q)] at k; exact k
theorem Y_hasRate {c : Nat} (hF : okF F) (hc : c < F.1 * F.2.1) : Yd y_Storey_hasRate [.ref 1, .int (nI c)] (hp F C J G) (.inl (some (.int (bI (decide (C 2 c = 2 ∨ C 2 c = 3)))))) (hp F C J G) := by
  have hn := hF.n
  refine Yd_of (fun Q k => ?_)
  unfold Y
  repeat (refine X_s rfl rfl ?_)
  refine X_ln rfl rfl rfl rfl rfl hc (show F.1 * F.2.1 < 2 ^ 31 by omega) ?_
  repeat (refine X_s rfl rfl ?_)
  refine X_b rfl rfl rfl (fun q => ?_) (fun q => ?_)
  · repeat (refine X_s rfl rfl ?_)
    refine X_r rfl rfl rfl rfl ?_
    rw [decide_eq_true (Or.inl (by exact q))] at k; exact k
  · repeat (refine X_s rfl rfl ?_)
    refine X_ln rfl rfl rfl rfl rfl hc (show F.1 * F.2.1 < 2 ^ 31 by omega) ?_
    repeat (refine X_s rfl rfl ?_)
    refine X_b rfl rfl rfl (fun q2 => ?_) (fun q2 => ?_)
    · repeat (refine X_s rfl rfl ?_)
      refine X_r rfl rfl rfl rfl ?_
      rw [decide_eq_false (fun h => h.elim q q2)] at k; exact k
    · repeat (refine X_s rfl rfl ?_)
      refine X_r rfl rfl rfl rfl ?_
      rw [show decide (C 2 c = 2 ∨ C 2 c = 3) = true from decide_eq_true (Or.inr (Decidable.not_not.mp q2))] at k; exact k
theorem Y_isBarred {c : Nat} {t : Int32} (hF : okF F) (hc : c < F.1 * F.2.1) : Yd y_Storey_isBarred [.ref 1, .int (nI c), .int t] (hp F C J G) (.inl (some (.int (bI (decide (¬ C 4 c = -1 ∧ C 4 c ≤ t)))))) (hp F C J G) := by
  have hn := hF.n
  refine Yd_of (fun Q k => ?_)
  unfold Y
  repeat (refine X_s rfl rfl ?_)
  refine X_ln rfl rfl rfl rfl rfl hc (show F.1 * F.2.1 < 2 ^ 31 by omega) ?_
  repeat (refine X_s rfl rfl ?_)
  refine X_b rfl rfl rfl (fun q => ?_) (fun q => ?_)
  · repeat (refine X_s rfl rfl ?_)
    refine X_r rfl rfl rfl rfl ?_
    rw [decide_eq_false (fun h => h.1 q)] at k; exact k
  · repeat (refine X_s rfl rfl ?_)
    refine X_ln rfl rfl rfl rfl rfl hc (show F.1 * F.2.1 < 2 ^ 31 by omega) ?_
    repeat (refine X_s rfl rfl ?_)
    refine X_b rfl rfl rfl (fun q2 => ?_) (fun q2 => ?_)
    · repeat (refine X_s rfl rfl ?_)
      refine X_r rfl rfl rfl rfl ?_
      rw [decide_eq_false (fun h => Int32.not_lt.mpr h.2 q2)] at k; exact k
    · repeat (refine X_s rfl rfl ?_)
      refine X_r rfl rfl rfl rfl ?_
      rw [decide_eq_true ⟨q, Int32.not_lt.mp q2⟩] at k; exact k
theorem Y_isExitNumberOrNone {x : Int32} : Yd y_Storey_isExitNumberOrNone [.ref 1, .int x] (hp F C J G) (.inl (some (.int (bI (decide (-1 ≤ x ∧ x < C 1 11)))))) (hp F C J G) := by
  refine Yd_of (fun Q k => ?_)
  unfold Y
  repeat (refine X_s rfl rfl ?_)
  refine X_b rfl rfl rfl (fun q => ?_) (fun q => ?_)
  · repeat (refine X_s rfl rfl ?_)
    refine X_r rfl rfl rfl rfl ?_
    rw [decide_eq_false (fun h => Int32.not_lt.mpr h.1 q)] at k; exact k
  · repeat (refine X_s rfl rfl ?_)
    refine X_b rfl rfl rfl (fun q2 => ?_) (fun q2 => ?_)
    · repeat (refine X_s rfl rfl ?_)
      refine X_r rfl rfl rfl rfl ?_
      rw [decide_eq_false (fun h => Int32.not_lt.mpr q2 h.2)] at k; exact k
    · repeat (refine X_s rfl rfl ?_)
      refine X_r rfl rfl rfl rfl ?_
      rw [decide_eq_true ⟨Int32.not_lt.mp q, Int32.not_le.mp q2⟩] at k; exact k
theorem Y_makeFree {c : Nat} (hF : okF F) (hc : c < F.1 * F.2.1) : Yd y_Storey_makeFree [.ref 1, .int (nI c)] (hp F C J G) (.inl none) (hp F (st C 2 c 0) J G) := by
  have hn := hF.n
  refine Yd_of (fun Q k => ?_)
  unfold Y
  repeat (refine X_s rfl rfl ?_)
  refine X_tn rfl rfl rfl rfl rfl rfl hc (show F.1 * F.2.1 < 2 ^ 31 by omega) ?_
  refine X_h (hp_st rfl rfl) ?_
  exact X_r rfl rfl rfl rfl k
end
