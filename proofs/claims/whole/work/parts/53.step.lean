/-! the class's run: a step -/
def ciC (C : Ct) (b : Nat) (t : Int32) : Int32 := if C 162 b = t then C 161 b else 0
def mvC (C : Ct) (p b k c t : Nat) : Ct := st (st (st (st (st (st (st (st (st C 161 b (ciC C b (nI t) + 1)) 162 b (nI t)) 34 b (C 34 b + 1)) 160 c (-1)) 35 p (nI b)) 37 p (nI t + C 25 p)) (39 + p) k (nI t)) (100 + p) k (nI b)) 33 p (nI k + 1)
def endC (C : Ct) (p : Nat) (how t : Int32) : Ct := st (st (st C 30 p how) 31 p t) 29 18 (C 29 18 - 1)
section
variable {F : Fx} {C : Ct} {J : Nat → Int64} {G : Ex} {Q : mE → mH → Prop} {p b k c t : Nat}
theorem Y_end {how s : Int32} (hF : okF F) (hp60 : p < 60) : Yd y_Flight_end [.ref 29, .int (nI p), .int how, .int s] (hp F C J G) (.inl none) (hp F (endC C p how s) J G) := by
  refine Yd_of (fun Q kk => ?_)
  unfold Y
  repeat (refine X_n rfl rfl rfl ?_)
  refine X_sa rfl rfl rfl hF (show p < 60 from hp60) ?_
  repeat (refine X_n rfl rfl rfl ?_)
  refine X_sa rfl rfl rfl hF (show p < 60 from hp60) ?_
  repeat (refine X_n rfl rfl rfl ?_)
  refine X_s rfl rfl ?_
  refine X_h (hp_f29_18 rfl) ?_
  repeat (refine X_n rfl rfl rfl ?_)
  exact X_r rfl rfl rfl rfl kk
theorem Y_cameIn {s : Int32} (hF : okF F) (hb : b < F.1 * F.2.1) : Yd y_Flight_cameIn [.ref 29, .int (nI b), .int s] (hp F C J G) (.inl (some (.int (ciC C b s)))) (hp F C J G) := by
  refine Yd_of (fun Q kk => ?_)
  unfold Y
  unfold ciC at kk
  repeat (refine X_n rfl rfl rfl ?_)
  refine X_la rfl rfl rfl hF hb ?_
  repeat (refine X_n rfl rfl rfl ?_)
  refine X_b rfl rfl rfl (fun q => ?_) (fun q => ?_)
  · rw [if_neg q] at kk
    repeat (refine X_n rfl rfl rfl ?_)
    exact X_r rfl rfl rfl rfl kk
  · have q : C 162 b = s := Classical.not_not.mp q
    rw [if_pos q] at kk
    repeat (refine X_n rfl rfl rfl ?_)
    refine X_la rfl rfl rfl hF hb ?_
    repeat (refine X_n rfl rfl rfl ?_)
    exact X_r rfl rfl rfl rfl kk
theorem Y_mayEnter (hF : okF F) (hb : b < F.1 * F.2.1) {s : Int32} : Yd y_Flight_mayEnter [.ref 29, .int (nI b), .int s] (hp F C J G) (.inl (some (.int (bI (decide (C 160 b = -1 ∧ ¬ (¬ C 4 b = -1 ∧ C 4 b ≤ s) ∧ (¬ (C 2 b = 2 ∨ C 2 b = 3) ∨ ciC C b s < C 3 b))))))) (hp F C J G) := by
  refine Yd_of (fun Q kk => ?_)
  unfold Y
  repeat (refine X_n rfl rfl rfl ?_)
  refine X_la rfl rfl rfl hF hb ?_
  repeat (refine X_n rfl rfl rfl ?_)
  refine X_b rfl rfl rfl (fun q => ?_) (fun q => ?_)
  · repeat (refine X_n rfl rfl rfl ?_)
    rw [decide_eq_false (fun h => q h.1)] at kk
    exact X_r rfl rfl rfl rfl kk
  · have q : C 160 b = -1 := Classical.not_not.mp q
    repeat (refine X_n rfl rfl rfl ?_)
    refine X_cd rfl rfl rfl rfl (Y_isBarred hF hb) ?_
    refine X_z rfl (fun r => ?_) (fun r => ?_)
    · repeat (refine X_n rfl rfl rfl ?_)
      refine X_cd rfl rfl rfl rfl (Y_hasRate hF hb) ?_
      refine X_z rfl (fun s => ?_) (fun s => ?_)
      · rw [decide_eq_true ⟨q, r, Or.inl s⟩] at kk
        repeat (refine X_n rfl rfl rfl ?_)
        exact X_r rfl rfl rfl rfl kk
      · repeat (refine X_n rfl rfl rfl ?_)
        refine X_cd rfl rfl rfl rfl (Y_cameIn hF hb) ?_
        repeat (refine X_n rfl rfl rfl ?_)
        refine X_la rfl rfl rfl hF hb ?_
        refine X_b rfl rfl rfl (fun w => ?_) (fun w => ?_)
        · rw [decide_eq_false (fun h => by
            rcases h.2.2 with g | g
            · exact g s
            · exact Int32.not_lt.mpr w g)] at kk
          repeat (refine X_n rfl rfl rfl ?_)
          exact X_r rfl rfl rfl rfl kk
        · rw [decide_eq_true ⟨q, r, Or.inr (Int32.not_le.mp w)⟩] at kk
          repeat (refine X_n rfl rfl rfl ?_)
          exact X_r rfl rfl rfl rfl kk
    · rw [decide_eq_false (fun h => h.2.1 r)] at kk
      repeat (refine X_n rfl rfl rfl ?_)
      exact X_r rfl rfl rfl rfl kk
theorem Y_move (hF : okF F) (hp60 : p < 60) (hb : b < F.1 * F.2.1) (hc : c < F.1 * F.2.1) (hk : k < F.1 * F.2.1) (e1 : C 35 p = nI c) (e2 : C 33 p = nI k) : Yd y_Flight_move [.ref 29, .int (nI p), .int (nI b), .int (nI t)] (hp F C J G) (.inl none) (hp F (mvC C p b k c t) J G) := by
  refine Yd_of (fun Q kk => ?_)
  have hn := hF.n
  unfold Y
  repeat (refine X_n rfl rfl rfl ?_)
  refine X_cd rfl rfl rfl rfl (Y_cameIn hF hb) ?_
  repeat (refine X_n rfl rfl rfl ?_)
  refine X_sa rfl rfl rfl hF hb ?_
  repeat (refine X_n rfl rfl rfl ?_)
  refine X_sa rfl rfl rfl hF hb ?_
  repeat (refine X_n rfl rfl rfl ?_)
  refine X_la rfl rfl rfl hF hb ?_
  repeat (refine X_n rfl rfl rfl ?_)
  refine X_sa rfl rfl rfl hF hb ?_
  repeat (refine X_n rfl rfl rfl ?_)
  refine X_la rfl rfl rfl hF (show p < 60 from hp60) ?_
  repeat (refine X_n rfl rfl rfl ?_)
  refine X_sa (k := c) rfl rfl e1 hF hc ?_
  repeat (refine X_n rfl rfl rfl ?_)
  refine X_sa rfl rfl rfl hF (show p < 60 from hp60) ?_
  repeat (refine X_n rfl rfl rfl ?_)
  refine X_la rfl rfl rfl hF (show p < 60 from hp60) ?_
  repeat (refine X_n rfl rfl rfl ?_)
  refine X_sa rfl rfl rfl hF (show p < 60 from hp60) ?_
  repeat (refine X_n rfl rfl rfl ?_)
  refine X_la rfl rfl rfl hF (show p < 60 from hp60) ?_
  refine X_top (w := nI k) e2 ?_
  repeat (refine X_n rfl rfl rfl ?_)
  refine X_bf rfl rfl rfl (nI_ge hk (by omega)) ?_
  repeat (refine X_n rfl rfl rfl ?_)
  refine X_ln rfl rfl rfl rfl rfl hp60 (show 60 < 2 ^ 31 by omega) ?_
  repeat (refine X_n rfl rfl rfl ?_)
  refine X_ti rfl (hp_at (kd_ss p hp60).1 (ln_0 (kd_ss p hp60).2)) (show 39 + p < 1000000000 by omega) rfl hk (by omega) ?_
  rw [hp_st (kd_ss p hp60).1 (ln_0 (kd_ss p hp60).2)]
  repeat (refine X_n rfl rfl rfl ?_)
  refine X_ln rfl rfl rfl rfl rfl hp60 (show 60 < 2 ^ 31 by omega) ?_
  repeat (refine X_n rfl rfl rfl ?_)
  refine X_ti rfl (hp_at (kd_sc p hp60).1 (ln_0 (kd_sc p hp60).2)) (show 100 + p < 1000000000 by omega) rfl hk (by omega) ?_
  rw [hp_st (kd_sc p hp60).1 (ln_0 (kd_sc p hp60).2)]
  repeat (refine X_n rfl rfl rfl ?_)
  refine X_sa rfl rfl rfl hF (show p < 60 from hp60) ?_
  exact X_r rfl rfl rfl rfl kk
end
