/-! the reference: the cell beside, is it a goal -/
section XR4
variable {y pc tgt : Nat} {x z : Int32} {L : mL} {S : List Value} {h : mH} {Q : mE → mH → Prop}
theorem X_rem (h1 : m_at y pc = some (.irem, 1, tgt)) (hz : ¬ z = 0) (kk : X y (pc + 1) L (.int (x - x / z * z) :: S) h Q) : X y pc L (.int z :: .int x :: S) h Q :=
  X_m h1 rfl rfl rfl rfl (by simp only [m_more]; rw [m_if_t hz]) kk
theorem X_div (h1 : m_at y pc = some (.idiv, 1, tgt)) (hz : ¬ z = 0) (kk : X y (pc + 1) L (.int (x / z) :: S) h Q) : X y pc L (.int z :: .int x :: S) h Q :=
  X_m h1 rfl rfl rfl rfl (by simp only [m_more]; rw [m_if_t hz]) kk
end XR4
def dxI (w : Nat) : Int32 := if w = 0 then 1 else if w = 1 then -1 else 0
def dyI (w : Nat) : Int32 := if w = 2 then 1 else if w = 3 then -1 else 0
/-- the cell beside in the reference, -1 beyond the storey's edge -/
def bsI (F : Fx) (c w : Nat) : Int32 := if (0 ≤ nI (c % 24) + dxI w ∧ nI (c % 24) + dxI w < nI F.1) ∧ (0 ≤ nI (c / 24) + dyI w ∧ nI (c / 24) + dyI w < nI F.2.1) then 24 * (nI (c / 24) + dyI w) + (nI (c % 24) + dxI w) else -1
section
variable {F : Fx} {C : Ct} {J : Nat → Int64} {G : Ex}
theorem Y_mcellI {x z : Int32} {h : mH} : Yd y_Model_cell [.int x, .int z] h (.inl (some (.int (24 * z + x)))) h := by
  refine Yd_of (fun Q k => ?_)
  unfold Y
  repeat (refine X_s rfl rfl ?_)
  exact X_r rfl rfl rfl rfl k
theorem Y_beside_tail {x z : Int32} {v1 v2 : Option Value} {Q : mE → mH → Prop} (k : Q (.inl (some (.int (if (0 ≤ x ∧ x < nI F.1) ∧ (0 ≤ z ∧ z < nI F.2.1) then 24 * z + x else -1)))) (hp F C J G)) :
    X y_Model_beside 50 [some (.ref 169), v1, v2, some (.int x), some (.int z)] [] (hp F C J G) Q := by
  iterate 3 (refine X_s rfl rfl ?_)
  refine X_cd rfl rfl rfl rfl Y_isCell ?_
  by_cases hc : (0 ≤ x ∧ x < nI F.1) ∧ (0 ≤ z ∧ z < nI F.2.1)
  · rw [show decide ((0 ≤ x ∧ x < nI F.1) ∧ (0 ≤ z ∧ z < nI F.2.1)) = true from decide_eq_true hc]
    rw [if_pos hc] at k
    refine X_bf rfl rfl rfl bI_t0 ?_
    iterate 2 (refine X_s rfl rfl ?_)
    refine X_cd rfl rfl rfl rfl Y_mcellI ?_
    refine X_s rfl rfl ?_
    exact X_r rfl rfl rfl rfl k
  · rw [show decide ((0 ≤ x ∧ x < nI F.1) ∧ (0 ≤ z ∧ z < nI F.2.1)) = false from decide_eq_false hc]
    rw [if_neg hc] at k
    refine X_bt rfl rfl rfl bI_f0 ?_
    refine X_s rfl rfl ?_
    exact X_r rfl rfl rfl rfl k
theorem Y_beside {c w : Nat} (hc : c < 2 ^ 31) (hw : w < 4) : Yd y_Model_beside [.ref 169, .int (nI c), .int (nI w)] (hp F C J G) (.inl (some (.int (bsI F c w)))) (hp F C J G) := by
  refine Yd_of (fun Q k => ?_)
  unfold Y
  have er : nI c - nI c / 24 * 24 = nI (c % 24) := pk_rem (d := 24) hc (by omega) (by omega)
  have ed : nI c / 24 = nI (c / 24) := pk_div (d := 24) hc (by omega) (by omega)
  iterate 2 (refine X_s rfl rfl ?_)
  refine X_rem rfl (show ¬ (24 : Int32) = 0 by decide) ?_
  rw [show nI c - nI c / (Int8.ofInt 24).toInt32 * (Int8.ofInt 24).toInt32 = nI (c % 24) from er]
  refine X_s rfl rfl ?_
  have hw4 : w = 0 ∨ w = 1 ∨ w = 2 ∨ w = 3 := by omega
  rcases hw4 with rfl | rfl | rfl | rfl
  · refine X_bf rfl rfl rfl (show ¬ ¬ nI 0 = 0 from fun h => h rfl) ?_
    iterate 6 (refine X_s rfl rfl ?_)
    refine X_div rfl (show ¬ (24 : Int32) = 0 by decide) ?_
    rw [show nI c / (Int8.ofInt 24).toInt32 = nI (c / 24) from ed]
    iterate 2 (refine X_s rfl rfl ?_)
    refine X_bt rfl rfl rfl (show ¬ nI 0 = 2 by decide) ?_
    iterate 2 (refine X_s rfl rfl ?_)
    refine X_bt rfl rfl rfl (show ¬ nI 0 = 3 by decide) ?_
    iterate 3 (refine X_s rfl rfl ?_)
    exact Y_beside_tail k
  · refine X_bt rfl rfl rfl (show ¬ nI 1 = 0 by decide) ?_
    iterate 2 (refine X_s rfl rfl ?_)
    refine X_bf rfl rfl rfl (show ¬ ¬ nI 1 = 1 from fun h => h rfl) ?_
    iterate 6 (refine X_s rfl rfl ?_)
    refine X_div rfl (show ¬ (24 : Int32) = 0 by decide) ?_
    rw [show nI c / (Int8.ofInt 24).toInt32 = nI (c / 24) from ed]
    iterate 2 (refine X_s rfl rfl ?_)
    refine X_bt rfl rfl rfl (show ¬ nI 1 = 2 by decide) ?_
    iterate 2 (refine X_s rfl rfl ?_)
    refine X_bt rfl rfl rfl (show ¬ nI 1 = 3 by decide) ?_
    iterate 3 (refine X_s rfl rfl ?_)
    exact Y_beside_tail k
  · refine X_bt rfl rfl rfl (show ¬ nI 2 = 0 by decide) ?_
    iterate 2 (refine X_s rfl rfl ?_)
    refine X_bt rfl rfl rfl (show ¬ nI 2 = 1 by decide) ?_
    iterate 5 (refine X_s rfl rfl ?_)
    refine X_div rfl (show ¬ (24 : Int32) = 0 by decide) ?_
    rw [show nI c / (Int8.ofInt 24).toInt32 = nI (c / 24) from ed]
    iterate 2 (refine X_s rfl rfl ?_)
    refine X_bf rfl rfl rfl (show ¬ ¬ nI 2 = 2 from fun h => h rfl) ?_
    iterate 4 (refine X_s rfl rfl ?_)
    exact Y_beside_tail k
  · refine X_bt rfl rfl rfl (show ¬ nI 3 = 0 by decide) ?_
    iterate 2 (refine X_s rfl rfl ?_)
    refine X_bt rfl rfl rfl (show ¬ nI 3 = 1 by decide) ?_
    iterate 5 (refine X_s rfl rfl ?_)
    refine X_div rfl (show ¬ (24 : Int32) = 0 by decide) ?_
    rw [show nI c / (Int8.ofInt 24).toInt32 = nI (c / 24) from ed]
    iterate 2 (refine X_s rfl rfl ?_)
    refine X_bt rfl rfl rfl (show ¬ nI 3 = 2 by decide) ?_
    iterate 2 (refine X_s rfl rfl ?_)
    refine X_bf rfl rfl rfl (show ¬ ¬ nI 3 = 3 from fun h => h rfl) ?_
    iterate 4 (refine X_s rfl rfl ?_)
    exact Y_beside_tail k
/-- is it a goal of the row w (8: all exits) -/
def glM (C : Ct) (w c : Nat) : Prop := if w = 8 then 0 ≤ C 171 c else C 171 c = nI w
theorem Y_isGoal {c w : Nat} (hc : c < 576) (hw : w ≤ 8) {Q : mE → mH → Prop} (kt : glM C w c → Q (.inl (some (.int 1))) (hp F C J G)) (kf : ¬ glM C w c → Q (.inl (some (.int 0))) (hp F C J G)) : Y y_Model_isGoal [.ref 169, .int (nI w), .int (nI c)] (hp F C J G) Q := by
  unfold Y
  iterate 2 (refine X_s rfl rfl ?_)
  by_cases h8 : w = 8
  · subst h8
    refine X_bf rfl rfl rfl (show ¬ ¬ nI 8 = 8 from fun h => h rfl) ?_
    iterate 3 (refine X_s rfl rfl ?_)
    refine X_ln rfl rfl rfl rfl rfl hc (show 576 < 2 ^ 31 by omega) ?_
    refine X_b rfl rfl rfl (fun q => ?_) (fun q => ?_)
    · iterate 2 (refine X_s rfl rfl ?_)
      exact X_r rfl rfl rfl rfl (kf (fun h => by unfold glM at h; rw [if_pos rfl] at h; exact Int32.not_lt.mpr h q))
    · iterate 2 (refine X_s rfl rfl ?_)
      exact X_r rfl rfl rfl rfl (kt (by unfold glM; rw [if_pos rfl]; exact Int32.not_lt.mp q))
  · refine X_bt rfl rfl rfl (show ¬ nI w = 8 from fun q => h8 ((nI_eq (b := 8) (by omega) (by omega)).mp q)) ?_
    iterate 3 (refine X_s rfl rfl ?_)
    refine X_ln rfl rfl rfl rfl rfl hc (show 576 < 2 ^ 31 by omega) ?_
    refine X_s rfl rfl ?_
    refine X_b rfl rfl rfl (fun q => ?_) (fun q => ?_)
    · refine X_s rfl rfl ?_
      exact X_r rfl rfl rfl rfl (kf (fun h => by unfold glM at h; rw [if_neg h8] at h; exact q h))
    · iterate 2 (refine X_s rfl rfl ?_)
      exact X_r rfl rfl rfl rfl (kt (by unfold glM; rw [if_neg h8]; exact Decidable.not_not.mp q))
end
