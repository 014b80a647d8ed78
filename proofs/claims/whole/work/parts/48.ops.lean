/-! the class's calls that change the storey and its people -/
section
variable {F : Fx} {C : Ct} {J : Nat → Int64} {G : Ex} {Q : mE → mH → Prop} {t : Nat}
/-- cellOf: both ways -/
theorem Y_cellOfK {x z : Int32} (hF : okF F) (kn : (x < 0 ∨ nI F.1 ≤ x ∨ z < 0 ∨ nI F.2.1 ≤ z) → Q (.inl (some (.int (-1)))) (hp F C J G)) (ky : ∀ i j, i < F.1 → j < F.2.1 → x = nI i → z = nI j → Q (.inl (some (.int (nI (j * F.1 + i))))) (hp F C J G)) : Y y_Storey_cellOf [.ref 1, .int x, .int z] (hp F C J G) Q := by
  rcases cell_or F hF x z with ⟨i, j, hi, hj, rfl, rfl⟩ | h
  · exact (Y_cellOf hF hi hj).to (ky i j hi hj rfl rfl)
  · exact (Y_cellOf_no hF h).to (kn h)
theorem ji_lt {i j : Nat} (hi : i < F.1) (hj : j < F.2.1) : j * F.1 + i < F.1 * F.2.1 := by
  calc j * F.1 + i < j * F.1 + F.1 := by omega
    _ = (j + 1) * F.1 := by rw [Nat.succ_mul]
    _ ≤ F.2.1 * F.1 := Nat.mul_le_mul_right _ hj
    _ = F.1 * F.2.1 := Nat.mul_comm _ _
theorem Y_smoke {x z s : Int32} (hF : okF F) (hG : okX G t)
    (k7 : (x < 0 ∨ nI F.1 ≤ x ∨ z < 0 ∨ nI F.2.1 ≤ z) ∨ ¬ (-1 ≤ s ∧ s ≤ 3600) → Q (.inr (194 + G.2.1)) (hp F C J (gx G 7)))
    (kr : ∀ i j, i < F.1 → j < F.2.1 → x = nI i → z = nI j → (-1 ≤ s ∧ s ≤ 3600) → Q (.inl (some (.int (C 4 (j * F.1 + i))))) (hp F (st (st C 4 (j * F.1 + i) s) 0 5 0) J G)) :
    Y y_Esc_smoke [.ref 0, .int x, .int z, .int s] (hp F C J G) Q := by
  unfold Y
  have hn := hF.n
  repeat (refine X_n rfl rfl rfl ?_)
  refine X_k rfl rfl rfl rfl (Y_cellOfK hF (fun h => ?_) (fun i j hi hj e1 e2 => ?_))
  · repeat (refine X_n rfl rfl rfl ?_)
    refine X_bt rfl rfl rfl rfl ?_
    exact X_w (x := 0) hG rfl rfl rfl rfl rfl (k7 (Or.inl h))
  · have hc := ji_lt hi hj
    repeat (refine X_n rfl rfl rfl ?_)
    refine X_bf rfl rfl rfl (nI_nm1 (by omega)) ?_
    repeat (refine X_n rfl rfl rfl ?_)
    refine X_cd rfl rfl rfl rfl Y_isWithin ?_
    refine X_nz rfl (fun q => ?_) (fun q => ?_)
    · repeat (refine X_n rfl rfl rfl ?_)
      refine X_la rfl rfl rfl hF hc ?_
      repeat (refine X_n rfl rfl rfl ?_)
      refine X_sa rfl rfl rfl hF hc ?_
      repeat (refine X_n rfl rfl rfl ?_)
      refine X_s rfl rfl ?_
      refine X_h (hp_f0_5 rfl) ?_
      repeat (refine X_n rfl rfl rfl ?_)
      exact X_r rfl rfl rfl rfl (kr i j hi hj e1 e2 q)
    · exact X_w (x := 0) hG rfl rfl rfl rfl rfl (k7 (Or.inr q))
theorem st_stA {C : Ct} {k i : Nat} {f : Nat → Int32} {v : Int32} : st (stA C k f) k i v = stA C k (upd f i v) := by
  funext k'
  unfold st stA
  by_cases e : k' = k
  · rw [if_pos e, if_pos e, if_pos rfl]
  · rw [if_neg e, if_neg e, if_neg e]
theorem stA_self {C : Ct} {k : Nat} : stA C k (C k) = C := by
  funext k'
  unfold stA
  by_cases e : k' = k
  · rw [if_pos e, e]
  · rw [if_neg e]
/-- no row is known any more -/
def fgt (C : Ct) : Ct := stA C 21 (flt (C 21) 0 9)
theorem Y_forget_loop (hF : okF F) (k : Q (.inl none) (hp F (fgt C) J G)) : ∀ (d i : Nat), i + d = 9 → X y_Numbers_forget 2 [some (.ref 10), some (.int (nI i))] [] (hp F (stA C 21 (flt (C 21) 0 i)) J G) Q := by
  intro d
  induction d with
  | zero =>
    intro i hi
    have : i = 9 := by omega
    subst this
    repeat (refine X_n rfl rfl rfl ?_)
    refine X_bt rfl rfl rfl (Int32.le_refl _) ?_
    exact X_r rfl rfl rfl rfl k
  | succ d ih =>
    intro i hi
    repeat (refine X_n rfl rfl rfl ?_)
    refine X_bf rfl rfl rfl (show ¬ nI 9 ≤ nI i from nI_ge (by omega) (by omega)) ?_
    repeat (refine X_n rfl rfl rfl ?_)
    refine X_sb rfl rfl (by decide) rfl hF (show i < 9 by omega) ?_
    rw [st_stA, show upd (flt (C 21) 0 i) i (Int32.ofInt 0) = flt (C 21) 0 (i + 1) from flt_s _ _ _]
    refine X_n rfl rfl rfl ?_
    refine X_n rfl rfl rfl ?_
    rw [nI_1']
    exact ih (i + 1) (by omega)
theorem Y_forget (hF : okF F) : Yd y_Numbers_forget [.ref 10] (hp F C J G) (.inl none) (hp F (fgt C) J G) := by
  refine Yd_of (fun Q k => ?_)
  unfold Y
  refine X_n rfl rfl rfl ?_
  refine X_n rfl rfl rfl ?_
  have h := Y_forget_loop (Q := Q) hF k 9 0 (by omega)
  rw [flt_0, stA_self] at h
  exact h
theorem Y_wall {x z : Int32} {b : Bool} (hF : okF F) (hG : okX G t) (hx : ∀ c, c < F.1 * F.2.1 → C 5 c = -1 ∨ ∃ e, e < 8 ∧ C 5 c = nI e)
    (k7 : (x < 0 ∨ nI F.1 ≤ x ∨ z < 0 ∨ nI F.2.1 ≤ z) → Q (.inr (194 + G.2.1)) (hp F C J (gx G 7)))
    (k8 : ∀ i j, i < F.1 → j < F.2.1 → x = nI i → z = nI j → ¬ C 28 (j * F.1 + i) = -1 → Q (.inr (194 + G.2.1)) (hp F C J (gx G 8)))
    (kr : ∀ i j, i < F.1 → j < F.2.1 → x = nI i → z = nI j → C 28 (j * F.1 + i) = -1 → Q (.inl (some (.int (bI (decide (C 2 (j * F.1 + i) = 1))))))
      (hp F (st (if b then (if C 2 (j * F.1 + i) = 1 then mkWall C (j * F.1 + i) else fgt (mkWall C (j * F.1 + i))) else (if C 2 (j * F.1 + i) = 1 then fgt (st C 2 (j * F.1 + i) 0) else C)) 0 5 0) J G)) :
    Y y_Esc_wall [.ref 0, .int x, .int z, .int (bI b)] (hp F C J G) Q := by
  unfold Y
  have hn := hF.n
  repeat (refine X_n rfl rfl rfl ?_)
  refine X_k rfl rfl rfl rfl (Y_cellOfK hF (fun h => ?_) (fun i j hi hj e1 e2 => ?_))
  · repeat (refine X_n rfl rfl rfl ?_)
    refine X_bf rfl rfl rfl (fun h => h rfl) ?_
    exact X_w (x := 0) hG rfl rfl rfl rfl rfl (k7 h)
  · have hc := ji_lt hi hj
    have kr := kr i j hi hj e1 e2
    have k8 := k8 i j hi hj e1 e2
    generalize j * F.1 + i = c at *
    repeat (refine X_n rfl rfl rfl ?_)
    refine X_bt rfl rfl rfl (nI_nm1 (by omega)) ?_
    repeat (refine X_n rfl rfl rfl ?_)
    refine X_la rfl rfl rfl hF hc ?_
    repeat (refine X_n rfl rfl rfl ?_)
    refine X_b rfl rfl rfl (fun q => ?_) (fun q => ?_)
    · have kr := kr q
      repeat (refine X_n rfl rfl rfl ?_)
      refine X_cd rfl rfl rfl rfl (Y_isWall hF hc) ?_
      repeat (refine X_n rfl rfl rfl ?_)
      cases b with
      | true =>
        rw [if_pos rfl] at kr
        refine X_bf rfl rfl rfl bI_t0 ?_
        repeat (refine X_n rfl rfl rfl ?_)
        refine X_cd rfl rfl rfl rfl (Y_makeWall hF hc (hx c hc)) ?_
        repeat (refine X_n rfl rfl rfl ?_)
        by_cases hw : C 2 c = 1
        · rw [if_pos hw] at kr
          refine X_bt rfl rfl rfl (show bI (decide (C 2 c = 1)) = bI true by rw [decide_eq_true hw]) ?_
          repeat (refine X_n rfl rfl rfl ?_)
          refine X_s rfl rfl ?_
          refine X_h (hp_f0_5 rfl) ?_
          repeat (refine X_n rfl rfl rfl ?_)
          refine X_r rfl rfl rfl ?_ kr
          rw [decide_eq_true hw]; rfl
        · rw [if_neg hw] at kr
          refine X_bf rfl rfl rfl (show ¬ bI (decide (C 2 c = 1)) = bI true by rw [decide_eq_false hw]; decide) ?_
          repeat (refine X_n rfl rfl rfl ?_)
          refine X_cd rfl rfl rfl rfl (Y_forget hF) ?_
          repeat (refine X_n rfl rfl rfl ?_)
          refine X_s rfl rfl ?_
          refine X_h (hp_f0_5 rfl) ?_
          repeat (refine X_n rfl rfl rfl ?_)
          refine X_r rfl rfl rfl ?_ kr
          rw [decide_eq_false hw]; rfl
      | false =>
        rw [if_neg (by decide)] at kr
        refine X_bt rfl rfl rfl bI_f0 ?_
        repeat (refine X_n rfl rfl rfl ?_)
        by_cases hw : C 2 c = 1
        · rw [if_pos hw] at kr
          refine X_bf rfl rfl rfl (show ¬ bI (decide (C 2 c = 1)) = 0 by rw [decide_eq_true hw]; decide) ?_
          repeat (refine X_n rfl rfl rfl ?_)
          refine X_cd rfl rfl rfl rfl (Y_makeFree hF hc) ?_
          repeat (refine X_n rfl rfl rfl ?_)
          refine X_bf rfl rfl rfl (show ¬ bI (decide (C 2 c = 1)) = bI false by rw [decide_eq_true hw]; decide) ?_
          repeat (refine X_n rfl rfl rfl ?_)
          refine X_cd rfl rfl rfl rfl (Y_forget hF) ?_
          repeat (refine X_n rfl rfl rfl ?_)
          refine X_s rfl rfl ?_
          refine X_h (hp_f0_5 rfl) ?_
          repeat (refine X_n rfl rfl rfl ?_)
          refine X_r rfl rfl rfl ?_ kr
          rw [decide_eq_true hw]; rfl
        · rw [if_neg hw] at kr
          refine X_bt rfl rfl rfl (show bI (decide (C 2 c = 1)) = 0 by rw [decide_eq_false hw]; decide) ?_
          repeat (refine X_n rfl rfl rfl ?_)
          refine X_bt rfl rfl rfl (show bI (decide (C 2 c = 1)) = bI false by rw [decide_eq_false hw]) ?_
          repeat (refine X_n rfl rfl rfl ?_)
          refine X_s rfl rfl ?_
          refine X_h (hp_f0_5 rfl) ?_
          repeat (refine X_n rfl rfl rfl ?_)
          refine X_r rfl rfl rfl ?_ kr
          rw [decide_eq_false hw]; rfl
    · exact X_w (x := 0) hG rfl rfl rfl rfl rfl (k8 q)
theorem Y_exit {x z r : Int32} {n8 : Nat} (hF : okF F) (hG : okX G t) (hX8 : n8 ≤ 8) (hX : C 1 11 = nI n8)
    (k7 : (x < 0 ∨ nI F.1 ≤ x ∨ z < 0 ∨ nI F.2.1 ≤ z) ∨ ¬ (1 ≤ r ∧ r ≤ 5) → Q (.inr (194 + G.2.1)) (hp F C J (gx G 7)))
    (k8 : ∀ i j, i < F.1 → j < F.2.1 → x = nI i → z = nI j → (1 ≤ r ∧ r ≤ 5) → (C 2 (j * F.1 + i) = 1 ∨ ¬ C 28 (j * F.1 + i) = -1 ∨ (¬ C 2 (j * F.1 + i) = 2 ∧ n8 = 8)) → Q (.inr (194 + G.2.1)) (hp F C J (gx G 8)))
    (ke : ∀ i j, i < F.1 → j < F.2.1 → x = nI i → z = nI j → (1 ≤ r ∧ r ≤ 5) → C 2 (j * F.1 + i) = 2 → C 28 (j * F.1 + i) = -1 → Q (.inl (some (.int (C 5 (j * F.1 + i))))) (hp F (st (st C 3 (j * F.1 + i) r) 0 5 0) J G))
    (kr : ∀ i j, i < F.1 → j < F.2.1 → x = nI i → z = nI j → (1 ≤ r ∧ r ≤ 5) → ¬ C 2 (j * F.1 + i) = 1 → ¬ C 2 (j * F.1 + i) = 2 → C 28 (j * F.1 + i) = -1 → n8 < 8 → Q (.inl (some (.int (nI n8)))) (hp F (st (st (fgt (st (st (st (st C 2 (j * F.1 + i) 2) 5 (j * F.1 + i) (nI n8)) 6 n8 (nI (j * F.1 + i))) 1 11 (nI (n8 + 1)))) 3 (j * F.1 + i) r) 0 5 0) J G)) :
    Y y_Esc_exit [.ref 0, .int x, .int z, .int r] (hp F C J G) Q := by
  unfold Y
  have hn := hF.n
  repeat (refine X_n rfl rfl rfl ?_)
  refine X_k rfl rfl rfl rfl (Y_cellOfK hF (fun h => ?_) (fun i j hi hj e1 e2 => ?_))
  · repeat (refine X_n rfl rfl rfl ?_)
    refine X_bt rfl rfl rfl rfl ?_
    exact X_w (x := 0) hG rfl rfl rfl rfl rfl (k7 (Or.inl h))
  · have hc := ji_lt hi hj
    have kr := kr i j hi hj e1 e2
    have ke := ke i j hi hj e1 e2
    have k8 := k8 i j hi hj e1 e2
    generalize j * F.1 + i = c at *
    repeat (refine X_n rfl rfl rfl ?_)
    refine X_bf rfl rfl rfl (nI_nm1 (by omega)) ?_
    repeat (refine X_n rfl rfl rfl ?_)
    refine X_cd rfl rfl rfl rfl Y_isWithin ?_
    refine X_nz rfl (fun qr => ?_) (fun qr => ?_)
    · have kr := kr qr
      have ke := ke qr
      have k8 := k8 qr
      repeat (refine X_n rfl rfl rfl ?_)
      refine X_cd rfl rfl rfl rfl (Y_isWall hF hc) ?_
      refine X_nz rfl (fun qw => ?_) (fun qw => ?_)
      · exact X_w (x := 0) hG rfl rfl rfl rfl rfl (k8 (Or.inl qw))
      · repeat (refine X_n rfl rfl rfl ?_)
        refine X_la rfl rfl rfl hF hc ?_
        repeat (refine X_n rfl rfl rfl ?_)
        refine X_b rfl rfl rfl (fun qp => ?_) (fun qp => ?_)
        · repeat (refine X_n rfl rfl rfl ?_)
          refine X_cd rfl rfl rfl rfl (Y_isExit hF hc) ?_
          refine X_nz rfl (fun qe => ?_) (fun qe => ?_)
          · repeat (refine X_n rfl rfl rfl ?_)
            refine X_sa rfl rfl rfl hF hc ?_
            repeat (refine X_n rfl rfl rfl ?_)
            refine X_s rfl rfl ?_
            refine X_h (hp_f0_5 rfl) ?_
            repeat (refine X_n rfl rfl rfl ?_)
            refine X_la rfl rfl rfl hF hc ?_
            have e5 : st (st C 3 c r) 0 5 0 5 c = C 5 c := rfl
            have kk := ke qe qp
            rw [← e5] at kk
            exact X_r rfl rfl rfl rfl kk
          · repeat (refine X_n rfl rfl rfl ?_)
            by_cases h8 : n8 < 8
            · refine X_bt rfl rfl rfl (show C 1 11 < 8 by rw [hX]; exact nI_lt (b := 8) h8 (by omega)) ?_
              repeat (refine X_n rfl rfl rfl ?_)
              refine X_cd rfl rfl rfl rfl (Y_makeExit hF hc h8 hX) ?_
              repeat (refine X_n rfl rfl rfl ?_)
              refine X_cd rfl rfl rfl rfl (Y_forget hF) ?_
              repeat (refine X_n rfl rfl rfl ?_)
              refine X_sa rfl rfl rfl hF hc ?_
              repeat (refine X_n rfl rfl rfl ?_)
              refine X_s rfl rfl ?_
              refine X_h (hp_f0_5 rfl) ?_
              repeat (refine X_n rfl rfl rfl ?_)
              refine X_la rfl rfl rfl hF hc ?_
              have e5 : st (st (fgt (st (st (st (st C 2 c 2) 5 c (nI n8)) 6 n8 (nI c)) 1 11 (nI (n8 + 1)))) 3 c r) 0 5 0 5 c = nI n8 := by
                rw [st_k (by omega), st_k (by omega)]
                show (st (st (st (st C 2 c 2) 5 c (nI n8)) 6 n8 (nI c)) 1 11 (nI (n8 + 1))) 5 c = _
                rw [st_k (by omega), st_k (by omega), st_s]
              exact X_r (v := some (.int (nI n8))) rfl rfl rfl (congrArg (fun v => some (some (Value.int v))) e5) (kr qw qe qp h8)
            · refine X_bf rfl rfl rfl (show ¬ C 1 11 < 8 by rw [hX, show n8 = 8 by omega]; decide) ?_
              exact X_w (x := 0) hG rfl rfl rfl rfl rfl (k8 (Or.inr (Or.inr ⟨qe, by omega⟩)))
        · exact X_w (x := 0) hG rfl rfl rfl rfl rfl (k8 (Or.inr (Or.inl qp)))
    · exact X_w (x := 0) hG rfl rfl rfl rfl rfl (k7 (Or.inr qr))
theorem Y_door {x z r : Int32} (hF : okF F) (hG : okX G t)
    (k7 : (x < 0 ∨ nI F.1 ≤ x ∨ z < 0 ∨ nI F.2.1 ≤ z) ∨ ¬ (1 ≤ r ∧ r ≤ 5) → Q (.inr (194 + G.2.1)) (hp F C J (gx G 7)))
    (k8 : ∀ i j, i < F.1 → j < F.2.1 → x = nI i → z = nI j → (1 ≤ r ∧ r ≤ 5) → (C 2 (j * F.1 + i) = 1 ∨ C 2 (j * F.1 + i) = 2) → Q (.inr (194 + G.2.1)) (hp F C J (gx G 8)))
    (kr : ∀ i j, i < F.1 → j < F.2.1 → x = nI i → z = nI j → (1 ≤ r ∧ r ≤ 5) → ¬ C 2 (j * F.1 + i) = 1 → ¬ C 2 (j * F.1 + i) = 2 → Q (.inl none) (hp F (st (st (st C 2 (j * F.1 + i) 3) 3 (j * F.1 + i) r) 0 5 0) J G)) :
    Y y_Esc_door [.ref 0, .int x, .int z, .int r] (hp F C J G) Q := by
  unfold Y
  have hn := hF.n
  repeat (refine X_n rfl rfl rfl ?_)
  refine X_k rfl rfl rfl rfl (Y_cellOfK hF (fun h => ?_) (fun i j hi hj e1 e2 => ?_))
  · repeat (refine X_n rfl rfl rfl ?_)
    refine X_bt rfl rfl rfl rfl ?_
    exact X_w (x := 0) hG rfl rfl rfl rfl rfl (k7 (Or.inl h))
  · have hc := ji_lt hi hj
    have kr := kr i j hi hj e1 e2
    have k8 := k8 i j hi hj e1 e2
    generalize j * F.1 + i = c at *
    repeat (refine X_n rfl rfl rfl ?_)
    refine X_bf rfl rfl rfl (nI_nm1 (by omega)) ?_
    repeat (refine X_n rfl rfl rfl ?_)
    refine X_cd rfl rfl rfl rfl Y_isWithin ?_
    refine X_nz rfl (fun qr => ?_) (fun qr => ?_)
    · have kr := kr qr
      have k8 := k8 qr
      repeat (refine X_n rfl rfl rfl ?_)
      refine X_cd rfl rfl rfl rfl (Y_isWall hF hc) ?_
      refine X_nz rfl (fun qw => ?_) (fun qw => ?_)
      · exact X_w (x := 0) hG rfl rfl rfl rfl rfl (k8 (Or.inl qw))
      · repeat (refine X_n rfl rfl rfl ?_)
        refine X_cd rfl rfl rfl rfl (Y_isExit hF hc) ?_
        refine X_z rfl (fun qe => ?_) (fun qe => ?_)
        · repeat (refine X_n rfl rfl rfl ?_)
          refine X_sa rfl rfl rfl hF hc ?_
          repeat (refine X_n rfl rfl rfl ?_)
          refine X_sa rfl rfl rfl hF hc ?_
          repeat (refine X_n rfl rfl rfl ?_)
          refine X_s rfl rfl ?_
          refine X_h (hp_f0_5 rfl) ?_
          exact X_r rfl rfl rfl rfl (kr qw qe)
        · exact X_w (x := 0) hG rfl rfl rfl rfl rfl (k8 (Or.inr qe))
    · exact X_w (x := 0) hG rfl rfl rfl rfl rfl (k7 (Or.inr qr))
theorem Y_person {x z a d : Int32} {p : Nat} (hF : okF F) (hG : okX G t) (hp60 : p ≤ 60) (hP : C 23 5 = nI p)
    (k7 : (x < 0 ∨ nI F.1 ≤ x ∨ z < 0 ∨ nI F.2.1 ≤ z) ∨ ¬ (1 ≤ a ∧ a ≤ 5) ∨ ¬ (0 ≤ d ∧ d ≤ 600) → Q (.inr (194 + G.2.1)) (hp F C J (gx G 7)))
    (k8 : ∀ i j, i < F.1 → j < F.2.1 → x = nI i → z = nI j → (1 ≤ a ∧ a ≤ 5) → (0 ≤ d ∧ d ≤ 600) → (C 2 (j * F.1 + i) = 1 ∨ C 2 (j * F.1 + i) = 2 ∨ ¬ C 28 (j * F.1 + i) = -1 ∨ p = 60) → Q (.inr (194 + G.2.1)) (hp F C J (gx G 8)))
    (kr : ∀ i j, i < F.1 → j < F.2.1 → x = nI i → z = nI j → (1 ≤ a ∧ a ≤ 5) → (0 ≤ d ∧ d ≤ 600) → ¬ C 2 (j * F.1 + i) = 1 → ¬ C 2 (j * F.1 + i) = 2 → C 28 (j * F.1 + i) = -1 → p < 60 → Q (.inl (some (.int (nI p)))) (hp F (addP (st C 0 5 0) p (j * F.1 + i) a d) J G)) :
    Y y_Esc_person [.ref 0, .int x, .int z, .int a, .int d] (hp F C J G) Q := by
  unfold Y
  have hn := hF.n
  repeat (refine X_n rfl rfl rfl ?_)
  refine X_k rfl rfl rfl rfl (Y_cellOfK hF (fun h => ?_) (fun i j hi hj e1 e2 => ?_))
  · repeat (refine X_n rfl rfl rfl ?_)
    refine X_bt rfl rfl rfl rfl ?_
    exact X_w (x := 0) hG rfl rfl rfl rfl rfl (k7 (Or.inl h))
  · have hc := ji_lt hi hj
    have kr := kr i j hi hj e1 e2
    have k8 := k8 i j hi hj e1 e2
    generalize j * F.1 + i = c at *
    repeat (refine X_n rfl rfl rfl ?_)
    refine X_bf rfl rfl rfl (nI_nm1 (by omega)) ?_
    repeat (refine X_n rfl rfl rfl ?_)
    refine X_cd rfl rfl rfl rfl Y_isWithin ?_
    refine X_z rfl (fun qa => ?_) (fun qa => ?_)
    · exact X_w (x := 0) hG rfl rfl rfl rfl rfl (k7 (Or.inr (Or.inl qa)))
    repeat (refine X_n rfl rfl rfl ?_)
    refine X_cd rfl rfl rfl rfl Y_isWithin ?_
    refine X_nz rfl (fun qd => ?_) (fun qd => ?_)
    · have kr := kr qa qd
      have k8 := k8 qa qd
      repeat (refine X_n rfl rfl rfl ?_)
      refine X_cd rfl rfl rfl rfl (Y_isWall hF hc) ?_
      refine X_nz rfl (fun qw => ?_) (fun qw => ?_)
      · exact X_w (x := 0) hG rfl rfl rfl rfl rfl (k8 (Or.inl qw))
      · repeat (refine X_n rfl rfl rfl ?_)
        refine X_cd rfl rfl rfl rfl (Y_isExit hF hc) ?_
        refine X_z rfl (fun qe => ?_) (fun qe => ?_)
        · repeat (refine X_n rfl rfl rfl ?_)
          refine X_la rfl rfl rfl hF hc ?_
          repeat (refine X_n rfl rfl rfl ?_)
          refine X_b rfl rfl rfl (fun qp => ?_) (fun qp => ?_)
          · exact X_w (x := 0) hG rfl rfl rfl rfl rfl (k8 (Or.inr (Or.inr (Or.inl qp))))
          · have qp := Decidable.not_not.mp qp
            repeat (refine X_n rfl rfl rfl ?_)
            by_cases h6 : p < 60
            · refine X_bt rfl rfl rfl (show C 23 5 < 60 by rw [hP]; exact nI_lt (b := 60) h6 (by omega)) ?_
              repeat (refine X_n rfl rfl rfl ?_)
              refine X_s rfl rfl ?_
              refine X_h (hp_f0_5 rfl) ?_
              repeat (refine X_n rfl rfl rfl ?_)
              refine X_cd rfl rfl rfl rfl (Y_add hF hc h6 (show st C 0 5 0 23 5 = nI p from hP)) ?_
              exact X_r rfl rfl rfl rfl (kr qw qe qp h6)
            · refine X_bf rfl rfl rfl (show ¬ C 23 5 < 60 by rw [hP, show p = 60 by omega]; decide) ?_
              exact X_w (x := 0) hG rfl rfl rfl rfl rfl (k8 (Or.inr (Or.inr (Or.inr (by omega)))))
        · exact X_w (x := 0) hG rfl rfl rfl rfl rfl (k8 (Or.inr (Or.inl qe)))
    · exact X_w (x := 0) hG rfl rfl rfl rfl rfl (k7 (Or.inr (Or.inr qd)))
theorem Y_habit {x e : Int32} {p : Nat} (hF : okF F) (hG : okX G t) (hp60 : p ≤ 60) (hP : C 23 5 = nI p)
    (k7 : ¬ (0 ≤ x ∧ x < nI p) ∨ ¬ (-1 ≤ e ∧ e < C 1 11) → Q (.inr (194 + G.2.1)) (hp F C J (gx G 7)))
    (kr : ∀ i, i < p → x = nI i → (-1 ≤ e ∧ e < C 1 11) → Q (.inl (some (.int (C 27 i)))) (hp F (st (st C 27 i e) 0 5 0) J G)) :
    Y y_Esc_habit [.ref 0, .int x, .int e] (hp F C J G) Q := by
  unfold Y
  repeat (refine X_n rfl rfl rfl ?_)
  refine X_cd rfl rfl rfl rfl Y_has ?_
  refine X_z rfl (fun q => ?_) (fun q => ?_)
  · exact X_w (x := 0) hG rfl rfl rfl rfl rfl (k7 (Or.inl (by rw [hP] at q; exact q)))
  · rw [hP] at q
    repeat (refine X_n rfl rfl rfl ?_)
    refine X_cd rfl rfl rfl rfl Y_isExitNumberOrNone ?_
    refine X_nz rfl (fun q2 => ?_) (fun q2 => ?_)
    · obtain ⟨i, hi, rfl⟩ := nI_of (Int32.not_lt.mpr q.1)
      have hip : i < p := (nI_ltI (by omega) (by omega)).mp q.2
      repeat (refine X_n rfl rfl rfl ?_)
      refine X_la rfl rfl rfl hF (show i < 60 by omega) ?_
      repeat (refine X_n rfl rfl rfl ?_)
      refine X_sa rfl rfl rfl hF (show i < 60 by omega) ?_
      repeat (refine X_n rfl rfl rfl ?_)
      refine X_s rfl rfl ?_
      refine X_h (hp_f0_5 rfl) ?_
      repeat (refine X_n rfl rfl rfl ?_)
      exact X_r rfl rfl rfl rfl (kr i hip rfl q2)
    · exact X_w (x := 0) hG rfl rfl rfl rfl rfl (k7 (Or.inr q2))
end
