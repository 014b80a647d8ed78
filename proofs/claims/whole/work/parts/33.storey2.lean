/-! Storey: what writes; the cell beside -/
section
variable {F : Fx} {C : Ct} {J : Nat → Int64} {G : Ex} {h : mH}
/-- 'besides' at a cell and a way: -1, or a cell -/
def okB (F : Fx) (C : Ct) : Prop := ∀ c, c < F.1 * F.2.1 → ∀ w, w < 4 → C 9 (c * 4 + w) = -1 ∨ ∃ d, d < F.1 * F.2.1 ∧ C 9 (c * 4 + w) = nI d
/-- the open cell beside, as a number or -1 -/
def opB (C : Ct) (c w : Nat) : Int32 := if C 9 (c * 4 + w) = -1 ∨ C 2 (C 9 (c * 4 + w)).toNatClampNeg = 1 then -1 else C 9 (c * 4 + w)
theorem Y_openBeside {c w : Nat} (hF : okF F) (hB : okB F C) (hc : c < F.1 * F.2.1) (hw : w < 4) : Yd y_Storey_openBeside [.ref 1, .int (nI c), .int (nI w)] (hp F C J G) (.inl (some (.int (opB C c w)))) (hp F C J G) := by
  have hn := hF.n
  refine Yd_of (fun Q k => ?_)
  unfold Y
  repeat (refine X_s rfl rfl ?_)
  refine X_ln rfl rfl rfl rfl (show nI c * 4 + nI w = nI (c * 4 + w) from by rw [show (4 : Int32) = nI 4 from rfl, pk_mul, nI_add]) (show c * 4 + w < 4 * (F.1 * F.2.1) by omega) (show 4 * (F.1 * F.2.1) < 2 ^ 31 by omega) ?_
  repeat (refine X_s rfl rfl ?_)
  refine X_b rfl rfl rfl (fun q => ?_) (fun q => ?_)
  · repeat (refine X_s rfl rfl ?_)
    refine X_r rfl rfl rfl rfl ?_
    rw [opB, if_pos (Or.inl (by exact q))] at k; exact k
  · rcases hB c hc w hw with e | ⟨d, hd, e⟩
    · exact absurd e q
    · repeat (refine X_s rfl rfl ?_)
      rw [e]
      refine X_cd rfl rfl rfl rfl (Y_isWall hF hd) ?_
      have ec : (C 9 (c * 4 + w)).toNatClampNeg = d := by rw [e, nI_clamp (by omega)]
      by_cases hx : C 2 d = 1
      · rw [show decide (C 2 d = 1) = true from decide_eq_true hx]
        refine X_bf rfl rfl rfl bI_t0 ?_
        · repeat (refine X_s rfl rfl ?_)
          refine X_r rfl rfl rfl rfl ?_
          rw [opB, if_pos (Or.inr (by rw [ec]; exact hx))] at k; exact k
      · rw [show decide (C 2 d = 1) = false from decide_eq_false hx]
        refine X_bt rfl rfl rfl bI_f0 ?_
        · repeat (refine X_s rfl rfl ?_)
          refine X_r rfl rfl rfl rfl ?_
          rw [opB, if_neg (fun h => h.elim (fun h => q h) (fun h => hx (by rw [ec] at h; exact h))), e] at k; exact k
/-- makeWall -/
def mkWall (C : Ct) (c : Nat) : Ct := if C 5 c = -1 then st C 2 c 1 else st (st (st C 6 (C 5 c).toNatClampNeg (-1)) 5 c (-1)) 2 c 1
theorem Y_makeWall {c : Nat} (hF : okF F) (hc : c < F.1 * F.2.1) (hx : C 5 c = -1 ∨ ∃ e, e < 8 ∧ C 5 c = nI e) : Yd y_Storey_makeWall [.ref 1, .int (nI c)] (hp F C J G) (.inl none) (hp F (mkWall C c) J G) := by
  have hn := hF.n
  refine Yd_of (fun Q k => ?_)
  unfold Y
  repeat (refine X_s rfl rfl ?_)
  refine X_ln rfl rfl rfl rfl rfl hc (show F.1 * F.2.1 < 2 ^ 31 by omega) ?_
  repeat (refine X_s rfl rfl ?_)
  refine X_b rfl rfl rfl (fun q => ?_) (fun q => ?_)
  · repeat (refine X_s rfl rfl ?_)
    refine X_tn rfl rfl rfl rfl rfl rfl hc (show F.1 * F.2.1 < 2 ^ 31 by omega) ?_
    refine X_h (hp_st rfl rfl) ?_
    refine X_r rfl rfl rfl rfl ?_
    rw [mkWall, if_pos (by exact q)] at k; exact k
  · rcases hx with e | ⟨x, hx, e⟩
    · exact absurd e q
    · repeat (refine X_s rfl rfl ?_)
      refine X_tn rfl rfl rfl rfl rfl e hx (show 8 < 2 ^ 31 by omega) ?_
      refine X_h (hp_st rfl rfl) ?_
      repeat (refine X_s rfl rfl ?_)
      refine X_tn rfl rfl rfl rfl rfl rfl hc (show F.1 * F.2.1 < 2 ^ 31 by omega) ?_
      refine X_h (hp_st rfl rfl) ?_
      repeat (refine X_s rfl rfl ?_)
      refine X_tn rfl rfl rfl rfl rfl rfl hc (show F.1 * F.2.1 < 2 ^ 31 by omega) ?_
      refine X_h (hp_st rfl rfl) ?_
      refine X_r rfl rfl rfl rfl ?_
      rw [mkWall, if_neg (by exact q), e, nI_clamp (by omega)] at k; exact k
/-- makeExit, where one more may be -/
theorem Y_makeExit {c x : Nat} (hF : okF F) (hc : c < F.1 * F.2.1) (hx : x < 8) (e : C 1 11 = nI x) : Yd y_Storey_makeExit [.ref 1, .int (nI c)] (hp F C J G) (.inl none) (hp F (st (st (st (st C 2 c 2) 5 c (nI x)) 6 x (nI c)) 1 11 (nI (x + 1))) J G) := by
  have hn := hF.n
  refine Yd_of (fun Q k => ?_)
  unfold Y
  repeat (refine X_s rfl rfl ?_)
  refine X_b rfl rfl rfl (fun q => ?_) (fun q => ?_)
  · exfalso
    rw [e] at q
    exact nI_ge hx (by omega) q
  · repeat (refine X_s rfl rfl ?_)
    refine X_tn rfl rfl rfl rfl rfl rfl hc (show F.1 * F.2.1 < 2 ^ 31 by omega) ?_
    refine X_h (hp_st rfl rfl) ?_
    repeat (refine X_s rfl rfl ?_)
    refine X_tn rfl rfl rfl rfl rfl rfl hc (show F.1 * F.2.1 < 2 ^ 31 by omega) ?_
    refine X_h (hp_st rfl rfl) ?_
    repeat (refine X_s rfl rfl ?_)
    refine X_tn rfl rfl rfl rfl rfl (k := x) ?_ hx (show 8 < 2 ^ 31 by omega) ?_
    · exact e
    refine X_h (hp_st rfl rfl) ?_
    repeat (refine X_s rfl rfl ?_)
    refine X_h (hp_f1_11 rfl) ?_
    refine X_r rfl rfl rfl rfl ?_
    simpa [st_r, e, nI_1] using k
end
