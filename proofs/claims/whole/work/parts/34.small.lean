/-! small methods of the other classes -/
section
variable {F : Fx} {C : Ct} {J : Nat → Int64} {G : Ex} {h : mH}
theorem nI_nlt_ge {a b : Nat} (h : a < b) (hb : b < 2 ^ 31 := by omega) : ¬ nI b ≤ nI a := nI_ge h hb
theorem Y_sideOf {a : Int32} : Yd y_Esc_sideOf [.int a] h (.inl (some (.int (if 2 < (if a < 24 then a else 24) then (if a < 24 then a else 24) else 2)))) h := by
  refine Yd_of (fun Q k => ?_)
  unfold Y
  repeat (refine X_s rfl rfl ?_)
  exact X_r rfl rfl rfl rfl k
theorem Y_has {x : Int32} : Yd y_People_has [.ref 23, .int x] (hp F C J G) (.inl (some (.int (bI (decide (0 ≤ x ∧ x < C 23 5)))))) (hp F C J G) := by
  refine Yd_of (fun Q k => ?_)
  unfold Y
  repeat (refine X_s rfl rfl ?_)
  refine X_b rfl rfl rfl (fun q => ?_) (fun q => ?_)
  · repeat (refine X_s rfl rfl ?_)
    refine X_r rfl rfl rfl rfl ?_
    rw [show decide (0 ≤ x ∧ x < C 23 5) = false from decide_eq_false (fun h => Int32.not_lt.mpr h.1 q)] at k; exact k
  · repeat (refine X_s rfl rfl ?_)
    refine X_b rfl rfl rfl (fun q2 => ?_) (fun q2 => ?_)
    · repeat (refine X_s rfl rfl ?_)
      refine X_r rfl rfl rfl rfl ?_
      rw [show decide (0 ≤ x ∧ x < C 23 5) = false from decide_eq_false (fun h => Int32.not_lt.mpr q2 h.2)] at k; exact k
    · repeat (refine X_s rfl rfl ?_)
      refine X_r rfl rfl rfl rfl ?_
      rw [show decide (0 ≤ x ∧ x < C 23 5) = true from decide_eq_true ⟨Int32.not_lt.mp q, Int32.not_le.mp q2⟩] at k; exact k
/-- add: a person more -/
def addP (C : Ct) (p c : Nat) (pace delay : Int32) : Ct := st (st (st (st (st (st C 24 p (nI c)) 25 p pace) 26 p delay) 27 p (-1)) 28 c (nI p)) 23 5 (nI (p + 1))
theorem Y_add {p c : Nat} {pace delay : Int32} (hF : okF F) (hc : c < F.1 * F.2.1) (hp60 : p < 60) (e : C 23 5 = nI p) : Yd y_People_add [.ref 23, .int (nI c), .int pace, .int delay] (hp F C J G) (.inl (some (.int (nI p)))) (hp F (addP C p c pace delay) J G) := by
  have hn := hF.n
  refine Yd_of (fun Q k => ?_)
  unfold Y
  repeat (refine X_s rfl rfl ?_)
  rw [e]
  refine X_bt rfl rfl rfl (nI_lt hp60 (by omega)) ?_
  repeat (refine X_s rfl rfl ?_)
  refine X_tn rfl rfl rfl rfl rfl rfl hp60 (show 60 < 2 ^ 31 by omega) ?_
  refine X_h (hp_st rfl rfl) ?_
  repeat (refine X_s rfl rfl ?_)
  refine X_tn rfl rfl rfl rfl rfl rfl hp60 (show 60 < 2 ^ 31 by omega) ?_
  refine X_h (hp_st rfl rfl) ?_
  repeat (refine X_s rfl rfl ?_)
  refine X_tn rfl rfl rfl rfl rfl rfl hp60 (show 60 < 2 ^ 31 by omega) ?_
  refine X_h (hp_st rfl rfl) ?_
  repeat (refine X_s rfl rfl ?_)
  refine X_tn rfl rfl rfl rfl rfl rfl hp60 (show 60 < 2 ^ 31 by omega) ?_
  refine X_h (hp_st rfl rfl) ?_
  repeat (refine X_s rfl rfl ?_)
  refine X_tn rfl rfl rfl rfl rfl rfl hc (show F.1 * F.2.1 < 2 ^ 31 by omega) ?_
  refine X_h (hp_st rfl rfl) ?_
  repeat (refine X_s rfl rfl ?_)
  refine X_h (hp_f23_5 rfl) ?_
  repeat (refine X_s rfl rfl ?_)
  refine X_r rfl rfl rfl rfl ?_
  simpa [st_r, e, nI_1, addP] using k
/-- foundRowTo: the row's cell -/
theorem Y_foundRowTo {e : Nat} {x : Int32} (hx : x + 1 = nI e) (he : e < 9) : Yd y_Numbers_foundRowTo [.ref 10, .int x] (hp F C J G) (.inl (some (.ref (12 + e)))) (hp F C J G) := by
  refine Yd_of (fun Q k => ?_)
  unfold Y
  repeat (refine X_s rfl rfl ?_)
  refine X_ln rfl rfl rfl rfl hx he (show 9 < 2 ^ 31 by omega) ?_
  exact X_r rfl rfl rfl rfl k
/-- the reference: thrown, refuses, isCell, cell, changed, isGoal, numberOf, isBarred -/
theorem Y_thrown : Yd y_Model_thrown [.ref 169] (hp F C J G) (.inl (some (.int (C 169 0)))) (hp F C J G) := by
  refine Yd_of (fun Q k => ?_)
  unfold Y
  repeat (refine X_s rfl rfl ?_)
  exact X_r rfl rfl rfl rfl k
theorem Y_refuses {w : Int32} : Yd y_Model_refuses [.ref 169, .int w] (hp F C J G) (.inl (some (.int (bI (decide (0 < w)))))) (hp F (st C 169 0 w) J G) := by
  refine Yd_of (fun Q k => ?_)
  unfold Y
  repeat (refine X_s rfl rfl ?_)
  refine X_h (hp_f169_0 rfl) ?_
  repeat (refine X_s rfl rfl ?_)
  refine X_b rfl rfl rfl (fun q => ?_) (fun q => ?_)
  · repeat (refine X_s rfl rfl ?_)
    refine X_r rfl rfl rfl rfl ?_
    rw [show decide (0 < w) = false from decide_eq_false (Int32.not_lt.mpr q)] at k; exact k
  · repeat (refine X_s rfl rfl ?_)
    refine X_r rfl rfl rfl rfl ?_
    rw [show decide (0 < w) = true from decide_eq_true (Int32.not_le.mp q)] at k; exact k
theorem Y_changed : Yd y_Model_changed [.ref 169] (hp F C J G) (.inl none) (hp F (st (st C 169 14 0) 169 17 0) J G) := by
  refine Yd_of (fun Q k => ?_)
  unfold Y
  iterate 3 (refine X_s rfl rfl ?_)
  refine X_h (hp_f169_14 rfl) ?_
  iterate 3 (refine X_s rfl rfl ?_)
  refine X_h (hp_f169_17 rfl) ?_
  exact X_r rfl rfl rfl rfl k
theorem Y_mcell {i j : Nat} (h : mH) : Yd y_Model_cell [.int (nI i), .int (nI j)] h (.inl (some (.int (nI (24 * j + i))))) h := by
  refine Yd_of (fun Q k => ?_)
  unfold Y
  repeat (refine X_s rfl rfl ?_)
  refine X_r rfl rfl rfl rfl ?_
  have e : (24 : Int32) * nI j + nI i = nI (24 * j + i) := by rw [show (24 : Int32) = nI 24 from rfl, pk_mul, nI_add]
  rw [← e] at k
  exact k
/-- is it a cell of the storey -/
theorem Y_isCell {x z : Int32} : Yd y_Model_isCell [.ref 169, .int x, .int z] (hp F C J G) (.inl (some (.int (bI (decide ((0 ≤ x ∧ x < nI F.1) ∧ (0 ≤ z ∧ z < nI F.2.1))))))) (hp F C J G) := by
  refine Yd_of (fun Q k => ?_)
  unfold Y
  have no : ¬ ((0 ≤ x ∧ x < nI F.1) ∧ (0 ≤ z ∧ z < nI F.2.1)) → Q (.inl (some (.int 0))) (hp F C J G) := fun h => by rw [decide_eq_false h] at k; exact k
  repeat (refine X_s rfl rfl ?_)
  refine X_b rfl rfl rfl (fun q => ?_) (fun q => ?_)
  · repeat (refine X_s rfl rfl ?_)
    exact X_r rfl rfl rfl rfl (no (fun h => Int32.not_lt.mpr h.1.1 q))
  repeat (refine X_s rfl rfl ?_)
  refine X_b rfl rfl rfl (fun q2 => ?_) (fun q2 => ?_)
  · repeat (refine X_s rfl rfl ?_)
    exact X_r rfl rfl rfl rfl (no (fun h => Int32.not_lt.mpr q2 h.1.2))
  repeat (refine X_s rfl rfl ?_)
  refine X_b rfl rfl rfl (fun q3 => ?_) (fun q3 => ?_)
  · repeat (refine X_s rfl rfl ?_)
    exact X_r rfl rfl rfl rfl (no (fun h => Int32.not_lt.mpr h.2.1 q3))
  repeat (refine X_s rfl rfl ?_)
  refine X_b rfl rfl rfl (fun q4 => ?_) (fun q4 => ?_)
  · repeat (refine X_s rfl rfl ?_)
    exact X_r rfl rfl rfl rfl (no (fun h => Int32.not_lt.mpr q4 h.2.2))
  repeat (refine X_s rfl rfl ?_)
  refine X_r rfl rfl rfl rfl ?_
  rw [show decide ((0 ≤ x ∧ x < nI F.1) ∧ (0 ≤ z ∧ z < nI F.2.1)) = true from decide_eq_true ⟨⟨Int32.not_lt.mp q, Int32.not_le.mp q2⟩, Int32.not_lt.mp q3, Int32.not_le.mp q4⟩] at k
  exact k
theorem Y_numberOf {w c : Nat} (hw : w ≤ 8) (hc : c < 576) : Yd y_Model_numberOf [.ref 169, .int (nI w), .int (nI c)] (hp F C J G) (.inl (some (.int (C 179 (576 * w + c))))) (hp F C J G) := by
  refine Yd_of (fun Q k => ?_)
  unfold Y
  repeat (refine X_s rfl rfl ?_)
  refine X_ln rfl rfl rfl rfl (show (576 : Int32) * nI w + nI c = nI (576 * w + c) from by rw [show (576 : Int32) = nI 576 from rfl, pk_mul, nI_add]) (show 576 * w + c < 5184 by omega) (show 5184 < 2 ^ 31 by omega) ?_
  exact X_r rfl rfl rfl rfl k
theorem Y_misBarred {c : Nat} {t : Int32} (hc : c < 576) : Yd y_Model_isBarred [.ref 169, .int (nI c), .int t] (hp F C J G) (.inl (some (.int (bI (decide (0 ≤ C 173 c ∧ C 173 c ≤ t)))))) (hp F C J G) := by
  refine Yd_of (fun Q k => ?_)
  unfold Y
  repeat (refine X_s rfl rfl ?_)
  refine X_ln rfl rfl rfl rfl rfl hc (show 576 < 2 ^ 31 by omega) ?_
  repeat (refine X_s rfl rfl ?_)
  refine X_b rfl rfl rfl (fun q => ?_) (fun q => ?_)
  · repeat (refine X_s rfl rfl ?_)
    refine X_r rfl rfl rfl rfl ?_
    rw [show decide (0 ≤ C 173 c ∧ C 173 c ≤ t) = false from decide_eq_false (fun h => Int32.not_lt.mpr h.1 q)] at k; exact k
  · repeat (refine X_s rfl rfl ?_)
    refine X_ln rfl rfl rfl rfl rfl hc (show 576 < 2 ^ 31 by omega) ?_
    repeat (refine X_s rfl rfl ?_)
    refine X_b rfl rfl rfl (fun q2 => ?_) (fun q2 => ?_)
    · repeat (refine X_s rfl rfl ?_)
      refine X_r rfl rfl rfl rfl ?_
      rw [show decide (0 ≤ C 173 c ∧ C 173 c ≤ t) = false from decide_eq_false (fun h => Int32.not_lt.mpr h.2 q2)] at k; exact k
    · repeat (refine X_s rfl rfl ?_)
      refine X_r rfl rfl rfl rfl ?_
      rw [show decide (0 ≤ C 173 c ∧ C 173 c ≤ t) = true from decide_eq_true ⟨Int32.not_lt.mp q, Int32.not_lt.mp q2⟩] at k; exact k
end
