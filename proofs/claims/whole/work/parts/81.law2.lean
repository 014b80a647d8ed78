/-! the law's cases: exit, person, wall -/
section
variable {F : Fx} {C : Ct} {J : Nat → Int64} {G : Ex} {Q : mE → mH → Prop} {t P i : Nat} {x5 x6 : Option Value}
theorem law_exit (hF : okF F) (hI : IV F P C) (hG : okX G t) (ht : t < 1000) (hL : i + 4 < F.2.2.1) (K : nxtL F t i Q) : X y_Law_law 235 [some (.ref 1000000002), some (.ref 0), some (.ref 169), some (.ref 193), some (.int (nI i)), x5, x6] [] (hp F C J G) Q := by
  have hF3 : F.2.2.1 ≤ 2562 := hF.2.2
  obtain ⟨hSS, -⟩ := id hI
  obtain ⟨⟨-, -, X8, hX8, h11, -, -⟩, -, -, -, a5, ⟨-, -, -, m4⟩, a7⟩ := id hSS
  have hP60 := a5.1
  repeat (refine X_n rfl rfl rfl ?_)
  refine X_li (k := i + 1) rfl rfl (nI_add i 1) (show i + 1 < F.2.2.1 by omega) (show F.2.2.1 < 2 ^ 31 by omega) ?_
  repeat (refine X_n rfl rfl rfl ?_)
  refine X_li (k := i + 2) rfl rfl (nI_add i 2) (show i + 2 < F.2.2.1 by omega) (show F.2.2.1 < 2 ^ 31 by omega) ?_
  repeat (refine X_n rfl rfl rfl ?_)
  refine X_li (k := i + 3) rfl rfl (nI_add i 3) (show i + 3 < F.2.2.1 by omega) (show F.2.2.1 < 2 ^ 31 by omega) ?_
  repeat (refine X_n rfl rfl rfl ?_)
  refine X_k rfl rfl rfl rfl (Y_Lexit hF hG hX8 h11 (fun h => ?_) (fun i' j' a b c d e f => ?_) (fun i' j' a b c d e f g => ?_) (fun i' j' a b c d e f g h8 h9 => ?_))
  · dsimp only
    repeat (refine X_n rfl rfl rfl ?_)
    refine X_li (k := i + 1) rfl rfl (nI_add i 1) (show i + 1 < F.2.2.1 by omega) (show F.2.2.1 < 2 ^ 31 by omega) ?_
    repeat (refine X_n rfl rfl rfl ?_)
    refine X_li (k := i + 2) rfl rfl (nI_add i 2) (show i + 2 < F.2.2.1 by omega) (show F.2.2.1 < 2 ^ 31 by omega) ?_
    repeat (refine X_n rfl rfl rfl ?_)
    refine X_li (k := i + 3) rfl rfl (nI_add i 3) (show i + 3 < F.2.2.1 by omega) (show F.2.2.1 < 2 ^ 31 by omega) ?_
    refine X_cd rfl rfl rfl rfl (Y_mexit_no h) ?_
    repeat (refine X_n rfl rfl rfl ?_)
    refine X_cd rfl rfl rfl rfl Y_thrown ?_
    repeat (refine X_n rfl rfl rfl ?_)
    refine X_bt rfl rfl rfl st_s ?_
    repeat (refine X_n rfl rfl rfl ?_)
    refine X_bt rfl rfl rfl (show ¬ (1 : Int32) = 0 by decide) ?_
    refine X_n rfl rfl rfl ?_
    exact K P _ _ _ _ _ (IV_no hI) (hG.gx ht 7)
  · have hc := ji_lt a b
    have ecm := cm_ji hF a b
    have hm5 := m576 hF a b
    obtain ⟨w1, w2, w3, w4, w5⟩ := w170 hSS hc
    have hpy := per_yes hF hSS hc
    rw [ecm] at w1 w2 hpy
    dsimp only
    repeat (refine X_n rfl rfl rfl ?_)
    refine X_li (k := i + 1) rfl rfl (nI_add i 1) (show i + 1 < F.2.2.1 by omega) (show F.2.2.1 < 2 ^ 31 by omega) ?_
    repeat (refine X_n rfl rfl rfl ?_)
    refine X_li (k := i + 2) rfl rfl (nI_add i 2) (show i + 2 < F.2.2.1 by omega) (show F.2.2.1 < 2 ^ 31 by omega) ?_
    repeat (refine X_n rfl rfl rfl ?_)
    refine X_li (k := i + 3) rfl rfl (nI_add i 3) (show i + 3 < F.2.2.1 by omega) (show F.2.2.1 < 2 ^ 31 by omega) ?_
    rw [c, d]
    have h : C 170 (24 * j' + i') = 1 ∨ (∃ p, p < P ∧ C 175 p = nI (24 * j' + i')) ∨ (C 171 (24 * j' + i') < 0 ∧ C 169 7 = 8) := by
      rw [w1, w2, w3]
      rcases f with q | q | ⟨q1, q2⟩
      · rw [if_pos q]; exact Or.inl rfl
      · exact Or.inr (Or.inl (hpy q))
      · right; right
        refine ⟨?_, by rw [h11, q2]; rfl⟩
        rcases w5 with ⟨z, -⟩ | ⟨x, z1, z2, z3⟩
        · rw [z]; decide
        · exact absurd z3 q1
    refine X_cd rfl rfl rfl rfl (Y_mexit_no2 hF a b e hP60 w4 (a7.1 _ hm5) h) ?_
    repeat (refine X_n rfl rfl rfl ?_)
    refine X_cd rfl rfl rfl rfl Y_thrown ?_
    repeat (refine X_n rfl rfl rfl ?_)
    refine X_bt rfl rfl rfl st_s ?_
    repeat (refine X_n rfl rfl rfl ?_)
    refine X_bt rfl rfl rfl (show ¬ (2 : Int32) = 0 by decide) ?_
    refine X_n rfl rfl rfl ?_
    exact K P _ _ _ _ _ (IV_no hI) (hG.gx ht 8)
  · have hc := ji_lt a b
    have ecm := cm_ji hF a b
    obtain ⟨w1, w2, w3, w4, w5⟩ := w170 hSS hc
    have hpn := per_no hF hSS hc g
    rw [ecm] at w1 w2 hpn
    dsimp only
    repeat (refine X_n rfl rfl rfl ?_)
    refine X_li (k := i + 1) rfl rfl (nI_add i 1) (show i + 1 < F.2.2.1 by omega) (show F.2.2.1 < 2 ^ 31 by omega) ?_
    repeat (refine X_n rfl rfl rfl ?_)
    refine X_li (k := i + 2) rfl rfl (nI_add i 2) (show i + 2 < F.2.2.1 by omega) (show F.2.2.1 < 2 ^ 31 by omega) ?_
    repeat (refine X_n rfl rfl rfl ?_)
    refine X_li (k := i + 3) rfl rfl (nI_add i 3) (show i + 3 < F.2.2.1 by omega) (show F.2.2.1 < 2 ^ 31 by omega) ?_
    rw [c, d]
    have h0 : C 170 (24 * j' + i') = 0 := by rw [w1, if_neg (by rw [f]; decide)]
    have h1 : 0 ≤ C 171 (24 * j' + i') := by
      rw [w2]
      rcases w5 with ⟨-, z⟩ | ⟨x, z1, z2, z3⟩
      · exact absurd f z
      · rw [z2]; exact nI_pos' (by omega)
    refine X_cd rfl rfl rfl rfl (Y_mexit_old hF a b e hP60 w4 h0 hpn h1) ?_
    rw [← ecm]
    rw [← ecm] at w2
    have hthr : mch (st (st (st (st C 3 (j' * F.1 + i') (F.2.2.2 (i + 3))) 0 5 0) 169 0 0) 172 (cm F (j' * F.1 + i')) (F.2.2.2 (i + 3))) 169 0 = 0 := by simp [mch, st_r]
    have hval : C 5 (j' * F.1 + i') = st (st C 3 (j' * F.1 + i') (F.2.2.2 (i + 3))) 0 5 0 171 (cm F (j' * F.1 + i')) := by rw [st_f (by omega), st_f (by omega)]; exact w2.symm
    repeat (refine X_n rfl rfl rfl ?_)
    refine X_cd rfl rfl rfl rfl Y_thrown ?_
    repeat (refine X_n rfl rfl rfl ?_)
    refine X_bt rfl rfl rfl hthr ?_
    repeat (refine X_n rfl rfl rfl ?_)
    refine X_bf rfl rfl rfl (fun h => h rfl) ?_
    repeat (refine X_n rfl rfl rfl ?_)
    refine X_ln rfl rfl rfl rfl rfl (show 0 < 1 by omega) (show 1 < 2 ^ 31 by omega) ?_
    repeat (refine X_n rfl rfl rfl ?_)
    refine X_bt rfl rfl rfl (lg_eq hval) ?_
    refine X_n rfl rfl rfl ?_
    generalize j' * F.1 + i' = c' at *
    generalize F.2.2.2 (i + 3) = r at *
    have hr0 : ¬ r = 0 := fun q => by rw [q] at e; exact absurd e.1 (by decide)
    refine K P _ _ _ _ _ (IV_chg (SS_rate hSS (fun k a1 a2 a3 a4 a5 a6 => by simp [mch, st_f, a1, a2, a4, a5]) (by simp [mch, st_r]) (by simp [mch, st_r]) (fun x hx => ?_)) (by simp [mch, st_r]) (by simp [mch, st_r]) (by simp [mch, st_r])) (hG.s ht)
    obtain ⟨n1, n2, n3⟩ := m4 x hx
    have ecx := cm_eqP hF hx hc
    by_cases ex : x = c'
    · subst ex
      exact ⟨by simpa [mch, st_r] using n1, by simpa [mch, st_r] using n2, Or.inl ⟨Or.inl f, by simp [mch, st_r], by simpa [mch, st_r] using hr0⟩⟩
    · exact ⟨by simpa [mch, st_r] using n1, by simpa [mch, st_r] using n2, by simpa [mch, st_r, ex, ecx] using n3⟩
  · have hc := ji_lt a b
    have ecm := cm_ji hF a b
    obtain ⟨w1, w2, w3, w4, w5⟩ := w170 hSS hc
    have hpn := per_no hF hSS hc h8
    rw [ecm] at w1 w2 hpn
    dsimp only
    repeat (refine X_n rfl rfl rfl ?_)
    refine X_li (k := i + 1) rfl rfl (nI_add i 1) (show i + 1 < F.2.2.1 by omega) (show F.2.2.1 < 2 ^ 31 by omega) ?_
    repeat (refine X_n rfl rfl rfl ?_)
    refine X_li (k := i + 2) rfl rfl (nI_add i 2) (show i + 2 < F.2.2.1 by omega) (show F.2.2.1 < 2 ^ 31 by omega) ?_
    repeat (refine X_n rfl rfl rfl ?_)
    refine X_li (k := i + 3) rfl rfl (nI_add i 3) (show i + 3 < F.2.2.1 by omega) (show F.2.2.1 < 2 ^ 31 by omega) ?_
    rw [c, d]
    have h0 : C 170 (24 * j' + i') = 0 := by rw [w1, if_neg f]
    have h1 : C 171 (24 * j' + i') < 0 := by
      rw [w2]
      rcases w5 with ⟨z, -⟩ | ⟨x, z1, z2, z3⟩
      · rw [z]; decide
      · exact absurd z3 g
    refine X_cd rfl rfl rfl rfl (Y_mexit_new (n8 := X8) hF a b e hP60 w4 h0 hpn h1 (w3.trans h11) h9) ?_
    rw [← ecm]
    have hthr : mch (st (st (st (st (st (st (st (fgt (st (st (st (st C 2 (j' * F.1 + i') 2) 5 (j' * F.1 + i') (nI X8)) 6 X8 (nI (j' * F.1 + i'))) 1 11 (nI (X8 + 1)))) 3 (j' * F.1 + i') (F.2.2.2 (i + 3))) 0 5 0) 169 0 0) 171 (cm F (j' * F.1 + i')) (nI X8)) 174 X8 (nI (cm F (j' * F.1 + i')))) 169 7 (nI (X8 + 1))) 172 (cm F (j' * F.1 + i')) (F.2.2.2 (i + 3))) 169 0 = 0 := by simp [mch, st_r]
    have hval : nI X8 = nI X8 := rfl
    repeat (refine X_n rfl rfl rfl ?_)
    refine X_cd rfl rfl rfl rfl Y_thrown ?_
    repeat (refine X_n rfl rfl rfl ?_)
    refine X_bt rfl rfl rfl hthr ?_
    repeat (refine X_n rfl rfl rfl ?_)
    refine X_bf rfl rfl rfl (fun h => h rfl) ?_
    repeat (refine X_n rfl rfl rfl ?_)
    refine X_ln rfl rfl rfl rfl rfl (show 0 < 1 by omega) (show 1 < 2 ^ 31 by omega) ?_
    repeat (refine X_n rfl rfl rfl ?_)
    refine X_bt rfl rfl rfl (lg_eq hval) ?_
    refine X_n rfl rfl rfl ?_
    generalize j' * F.1 + i' = c' at *
    generalize F.2.2.2 (i + 3) = r at *
    have hr0 : ¬ r = 0 := fun q => by rw [q] at e; exact absurd e.1 (by decide)
    refine K P _ _ _ _ _ (IV_chg (SS_exit (c := c') (r := r) (X8 := X8) hF hSS hc hr0 f g h8 h11 h9 (fun k a1 a2 a3 a4 a5 a6 a7 a8 a9 a10 a11 => by simp [mch, st_f, fgt, stA_f, a1, a2, a3, a4, a5, a6, a7, a8, a9, a10, a11]) (by simp [mch, st_r]) (by simp [mch, st_r, fgt, stA_r]) (by simp [mch, st_r, fgt, stA_r]) (fun q hq => by simp [mch, st_r, fgt, stA_r, flt, hq]) (fun x => by simp [mch, st_r, fgt, stA_r]) (fun x => by simp [mch, st_r, fgt, stA_r]) (fun x => by simp [mch, st_r, fgt, stA_r]) (fun x => by simp [mch, st_r, fgt, stA_r]) (fun x => by simp [mch, st_r, fgt, stA_r]) (fun x => by simp [mch, st_r, fgt, stA_r])) (by simp [mch, st_r]) (by simp [mch, st_r]) (by simp [mch, st_r])) (hG.s ht)
theorem law_person (hF : okF F) (hI : IV F P C) (hG : okX G t) (ht : t < 1000) (hL : i + 4 < F.2.2.1) (K : nxtL F t i Q) : X y_Law_law 455 [some (.ref 1000000002), some (.ref 0), some (.ref 169), some (.ref 193), some (.int (nI i)), x5, x6] [] (hp F C J G) Q := by
  have hF3 : F.2.2.1 ≤ 2562 := hF.2.2
  obtain ⟨hSS, -⟩ := id hI
  obtain ⟨-, -, -, -, a5, -, a7⟩ := id hSS
  have hP60 := a5.1
  repeat (refine X_n rfl rfl rfl ?_)
  refine X_li (k := i + 1) rfl rfl (nI_add i 1) (show i + 1 < F.2.2.1 by omega) (show F.2.2.1 < 2 ^ 31 by omega) ?_
  repeat (refine X_n rfl rfl rfl ?_)
  refine X_li (k := i + 2) rfl rfl (nI_add i 2) (show i + 2 < F.2.2.1 by omega) (show F.2.2.1 < 2 ^ 31 by omega) ?_
  repeat (refine X_n rfl rfl rfl ?_)
  refine X_li (k := i + 3) rfl rfl (nI_add i 3) (show i + 3 < F.2.2.1 by omega) (show F.2.2.1 < 2 ^ 31 by omega) ?_
  repeat (refine X_n rfl rfl rfl ?_)
  refine X_li (k := i + 4) rfl rfl (nI_add i 4) (show i + 4 < F.2.2.1 by omega) (show F.2.2.1 < 2 ^ 31 by omega) ?_
  repeat (refine X_n rfl rfl rfl ?_)
  refine X_k rfl rfl rfl rfl (Y_Lperson hF hG hP60 a5.2.1 (fun h => ?_) (fun i' j' a b c d e f g => ?_) (fun i' j' a b c d e f g h8 h9 h10 => ?_))
  · dsimp only
    repeat (refine X_n rfl rfl rfl ?_)
    refine X_li (k := i + 1) rfl rfl (nI_add i 1) (show i + 1 < F.2.2.1 by omega) (show F.2.2.1 < 2 ^ 31 by omega) ?_
    repeat (refine X_n rfl rfl rfl ?_)
    refine X_li (k := i + 2) rfl rfl (nI_add i 2) (show i + 2 < F.2.2.1 by omega) (show F.2.2.1 < 2 ^ 31 by omega) ?_
    repeat (refine X_n rfl rfl rfl ?_)
    refine X_li (k := i + 3) rfl rfl (nI_add i 3) (show i + 3 < F.2.2.1 by omega) (show F.2.2.1 < 2 ^ 31 by omega) ?_
    repeat (refine X_n rfl rfl rfl ?_)
    refine X_li (k := i + 4) rfl rfl (nI_add i 4) (show i + 4 < F.2.2.1 by omega) (show F.2.2.1 < 2 ^ 31 by omega) ?_
    refine X_cd rfl rfl rfl rfl (Y_mperson_no h) ?_
    repeat (refine X_n rfl rfl rfl ?_)
    refine X_cd rfl rfl rfl rfl Y_thrown ?_
    repeat (refine X_n rfl rfl rfl ?_)
    refine X_bt rfl rfl rfl st_s ?_
    repeat (refine X_n rfl rfl rfl ?_)
    refine X_bt rfl rfl rfl (show ¬ (1 : Int32) = 0 by decide) ?_
    refine X_n rfl rfl rfl ?_
    exact K P _ _ _ _ _ (IV_no hI) (hG.gx ht 7)
  · have hc := ji_lt a b
    have ecm := cm_ji hF a b
    have hm5 := m576 hF a b
    obtain ⟨w1, w2, w3, w4, w5⟩ := w170 hSS hc
    have hpy := per_yes hF hSS hc
    rw [ecm] at w1 w2 hpy
    dsimp only
    repeat (refine X_n rfl rfl rfl ?_)
    refine X_li (k := i + 1) rfl rfl (nI_add i 1) (show i + 1 < F.2.2.1 by omega) (show F.2.2.1 < 2 ^ 31 by omega) ?_
    repeat (refine X_n rfl rfl rfl ?_)
    refine X_li (k := i + 2) rfl rfl (nI_add i 2) (show i + 2 < F.2.2.1 by omega) (show F.2.2.1 < 2 ^ 31 by omega) ?_
    repeat (refine X_n rfl rfl rfl ?_)
    refine X_li (k := i + 3) rfl rfl (nI_add i 3) (show i + 3 < F.2.2.1 by omega) (show F.2.2.1 < 2 ^ 31 by omega) ?_
    repeat (refine X_n rfl rfl rfl ?_)
    refine X_li (k := i + 4) rfl rfl (nI_add i 4) (show i + 4 < F.2.2.1 by omega) (show F.2.2.1 < 2 ^ 31 by omega) ?_
    rw [c, d]
    have h : C 170 (24 * j' + i') = 1 ∨ 0 ≤ C 171 (24 * j' + i') ∨ (∃ p, p < P ∧ C 175 p = nI (24 * j' + i')) ∨ P = 60 := by
      rw [w1, w2]
      rcases g with q | q | q | q
      · rw [if_pos q]; exact Or.inl rfl
      · rcases w5 with ⟨-, z⟩ | ⟨x, z1, z2, z3⟩
        · exact absurd q z
        · right; left; rw [z2]; exact nI_pos' (by omega)
      · exact Or.inr (Or.inr (Or.inl (hpy q)))
      · exact Or.inr (Or.inr (Or.inr q))
    refine X_cd rfl rfl rfl rfl (Y_mperson_no2 hF a b e f hP60 w4 (a7.1 _ hm5) h) ?_
    repeat (refine X_n rfl rfl rfl ?_)
    refine X_cd rfl rfl rfl rfl Y_thrown ?_
    repeat (refine X_n rfl rfl rfl ?_)
    refine X_bt rfl rfl rfl st_s ?_
    repeat (refine X_n rfl rfl rfl ?_)
    refine X_bt rfl rfl rfl (show ¬ (2 : Int32) = 0 by decide) ?_
    refine X_n rfl rfl rfl ?_
    exact K P _ _ _ _ _ (IV_no hI) (hG.gx ht 8)
  · have hc := ji_lt a b
    have ecm := cm_ji hF a b
    obtain ⟨w1, w2, w3, w4, w5⟩ := w170 hSS hc
    have hpn := per_no hF hSS hc h9
    rw [ecm] at w1 w2 hpn
    dsimp only
    repeat (refine X_n rfl rfl rfl ?_)
    refine X_li (k := i + 1) rfl rfl (nI_add i 1) (show i + 1 < F.2.2.1 by omega) (show F.2.2.1 < 2 ^ 31 by omega) ?_
    repeat (refine X_n rfl rfl rfl ?_)
    refine X_li (k := i + 2) rfl rfl (nI_add i 2) (show i + 2 < F.2.2.1 by omega) (show F.2.2.1 < 2 ^ 31 by omega) ?_
    repeat (refine X_n rfl rfl rfl ?_)
    refine X_li (k := i + 3) rfl rfl (nI_add i 3) (show i + 3 < F.2.2.1 by omega) (show F.2.2.1 < 2 ^ 31 by omega) ?_
    repeat (refine X_n rfl rfl rfl ?_)
    refine X_li (k := i + 4) rfl rfl (nI_add i 4) (show i + 4 < F.2.2.1 by omega) (show F.2.2.1 < 2 ^ 31 by omega) ?_
    rw [c, d]
    have h0 : C 170 (24 * j' + i') = 0 := by rw [w1, if_neg g]
    have h1 : C 171 (24 * j' + i') < 0 := by
      rw [w2]
      rcases w5 with ⟨z, -⟩ | ⟨x, z1, z2, z3⟩
      · rw [z]; decide
      · exact absurd z3 h8
    refine X_cd rfl rfl rfl rfl (Y_mperson (P := P) hF a b e f h10 w4 h0 h1 hpn) ?_
    rw [← ecm]
    have hthr : maddP (addP (st C 0 5 0) P (j' * F.1 + i') (F.2.2.2 (i + 3)) (F.2.2.2 (i + 4))) P (cm F (j' * F.1 + i')) (F.2.2.2 (i + 3)) (F.2.2.2 (i + 4)) 169 0 = 0 := by simp [maddP, mch, st_r]
    have hval : nI P = nI P := rfl
    repeat (refine X_n rfl rfl rfl ?_)
    refine X_cd rfl rfl rfl rfl Y_thrown ?_
    repeat (refine X_n rfl rfl rfl ?_)
    refine X_bt rfl rfl rfl hthr ?_
    repeat (refine X_n rfl rfl rfl ?_)
    refine X_bf rfl rfl rfl (fun h => h rfl) ?_
    repeat (refine X_n rfl rfl rfl ?_)
    refine X_ln rfl rfl rfl rfl rfl (show 0 < 1 by omega) (show 1 < 2 ^ 31 by omega) ?_
    repeat (refine X_n rfl rfl rfl ?_)
    refine X_bt rfl rfl rfl (lg_eq hval) ?_
    refine X_n rfl rfl rfl ?_
    generalize j' * F.1 + i' = c' at *
    generalize F.2.2.2 (i + 3) = pa at *
    generalize F.2.2.2 (i + 4) = de at *
    obtain ⟨pa', hpa, epa⟩ := i32_rng (m := 5) (by omega) (Int32.le_trans (by decide) e.1) e.2
    obtain ⟨de', hde, ede⟩ := i32_rng (m := 600) (by omega) f.1 f.2
    subst epa
    subst ede
    have hpa1 : 1 ≤ pa' := (nI_leI (a := 1) (by omega) (by omega)).mp e.1
    refine K (P + 1) _ _ _ _ _ (IV_chg (SS_person (c := c') (a := pa') (d := de') hF hSS h10 hc g h8 h9 ⟨hpa1, hpa⟩ hde (fun k a1 a2 a3 a4 => ?_) (by simp [maddP, addP, mch, st_r]) (by simp [maddP, addP, mch, st_r]) (by simp [maddP, addP, mch, st_r]) (fun x => by simp [maddP, addP, mch, st_r]) (fun x => by simp [maddP, addP, mch, st_r]) (fun x => by simp [maddP, addP, mch, st_r]) (fun x => by simp [maddP, addP, mch, st_r]) (fun x => by simp [maddP, addP, mch, st_r]) (fun x => by simp [maddP, addP, mch, st_r]) (fun x => by simp [maddP, addP, mch, st_r]) (fun x => by simp [maddP, addP, mch, st_r]) (fun x => by simp [maddP, addP, mch, st_r])) (by simp [maddP, mch, st_r]) (by simp [maddP, mch, st_r]) (by simp [maddP, addP, mch, st_r])) (hG.s ht)
    unfold maddP mch addP
    rw [st_f (by omega), st_f (by omega), st_f (by omega), st_f (by omega), st_f (by omega), st_f (by omega), st_f (by omega), st_f (by omega), st_f (by omega), st_f (by omega), st_f (by omega), st_f (by omega), st_f (by omega), st_f (by omega), st_f (by omega)]
end
