/-! the law's cases: calls that change -/
section
variable {F : Fx} {C : Ct} {J : Nat → Int64} {G : Ex} {Q : mE → mH → Prop} {t P i : Nat} {x5 x6 : Option Value}
theorem lg_eq {a b : Int32} (h : a = b) : lg_cmp a.toInt64 b.toInt64 = 0 := by
  subst h
  unfold lg_cmp
  rw [if_neg (fun q => Int64.lt_irrefl q), if_pos rfl]
theorem IV_no {v : Int32} (h : IV F P C) : IV F P (st C 169 0 v) := by
  refine IV_ask h (fun k _ _ h169 _ _ _ => st_f h169) (fun j h0 _ => st_i h0) ?_ (st0_okL h.2.1)
  exact okN_eq h.1.2.2.2.1 st0_cfg (fun k _ _ => st_f (by omega))
/-- what follows a case -/
abbrev nxtL (F : Fx) (t i : Nat) (Q : mE → mH → Prop) : Prop := ∀ P C J G x5 x6, IV F P C → okX G (t + 1) → X y_Law_law 1019 [some (.ref 1000000002), some (.ref 0), some (.ref 169), some (.ref 193), some (.int (nI i)), x5, x6] [] (hp F C J G) Q
theorem law_smoke (hF : okF F) (hI : IV F P C) (hG : okX G t) (ht : t < 1000) (hL : i + 4 < F.2.2.1) (K : nxtL F t i Q) : X y_Law_law 375 [some (.ref 1000000002), some (.ref 0), some (.ref 169), some (.ref 193), some (.int (nI i)), x5, x6] [] (hp F C J G) Q := by
  have hF3 : F.2.2.1 ≤ 2562 := hF.2.2
  repeat (refine X_n rfl rfl rfl ?_)
  refine X_li (k := i + 1) rfl rfl (nI_add i 1) (show i + 1 < F.2.2.1 by omega) (show F.2.2.1 < 2 ^ 31 by omega) ?_
  repeat (refine X_n rfl rfl rfl ?_)
  refine X_li (k := i + 2) rfl rfl (nI_add i 2) (show i + 2 < F.2.2.1 by omega) (show F.2.2.1 < 2 ^ 31 by omega) ?_
  repeat (refine X_n rfl rfl rfl ?_)
  refine X_li (k := i + 3) rfl rfl (nI_add i 3) (show i + 3 < F.2.2.1 by omega) (show F.2.2.1 < 2 ^ 31 by omega) ?_
  repeat (refine X_n rfl rfl rfl ?_)
  refine X_k rfl rfl rfl rfl (Y_Lsmoke hF hG (fun h => ?_) (fun i' j' a b c d e => ?_))
  · dsimp only
    repeat (refine X_n rfl rfl rfl ?_)
    refine X_li (k := i + 1) rfl rfl (nI_add i 1) (show i + 1 < F.2.2.1 by omega) (show F.2.2.1 < 2 ^ 31 by omega) ?_
    repeat (refine X_n rfl rfl rfl ?_)
    refine X_li (k := i + 2) rfl rfl (nI_add i 2) (show i + 2 < F.2.2.1 by omega) (show F.2.2.1 < 2 ^ 31 by omega) ?_
    repeat (refine X_n rfl rfl rfl ?_)
    refine X_li (k := i + 3) rfl rfl (nI_add i 3) (show i + 3 < F.2.2.1 by omega) (show F.2.2.1 < 2 ^ 31 by omega) ?_
    refine X_cd rfl rfl rfl rfl (Y_msmoke_no h) ?_
    repeat (refine X_n rfl rfl rfl ?_)
    refine X_cd rfl rfl rfl rfl Y_thrown ?_
    repeat (refine X_n rfl rfl rfl ?_)
    refine X_bt rfl rfl rfl st_s ?_
    repeat (refine X_n rfl rfl rfl ?_)
    refine X_bt rfl rfl rfl (show ¬ (1 : Int32) = 0 by decide) ?_
    refine X_n rfl rfl rfl ?_
    exact K P _ _ _ _ _ (IV_no hI) (hG.gx ht 7)
  · have hc := ji_lt a b
    have ecm := cm_ji hF a b
    obtain ⟨hSS, -⟩ := hI
    obtain ⟨-, -, -, -, -, ⟨-, -, -, m4⟩, -⟩ := id hSS
    dsimp only
    repeat (refine X_n rfl rfl rfl ?_)
    refine X_li (k := i + 1) rfl rfl (nI_add i 1) (show i + 1 < F.2.2.1 by omega) (show F.2.2.1 < 2 ^ 31 by omega) ?_
    repeat (refine X_n rfl rfl rfl ?_)
    refine X_li (k := i + 2) rfl rfl (nI_add i 2) (show i + 2 < F.2.2.1 by omega) (show F.2.2.1 < 2 ^ 31 by omega) ?_
    repeat (refine X_n rfl rfl rfl ?_)
    refine X_li (k := i + 3) rfl rfl (nI_add i 3) (show i + 3 < F.2.2.1 by omega) (show F.2.2.1 < 2 ^ 31 by omega) ?_
    rw [c, d]
    refine X_cd rfl rfl rfl rfl (Y_msmoke hF a b e) ?_
    rw [← ecm]
    have hthr : mch (st (st (st (st C 4 (j' * F.1 + i') (F.2.2.2 (i + 3))) 0 5 0) 169 0 0) 173 (cm F (j' * F.1 + i')) (F.2.2.2 (i + 3))) 169 0 = 0 := by simp [mch, st_r]
    have hval : C 4 (j' * F.1 + i') = st (st C 4 (j' * F.1 + i') (F.2.2.2 (i + 3))) 0 5 0 173 (cm F (j' * F.1 + i')) := by rw [st_f (by omega), st_f (by omega)]; exact (m4 _ hc).1.symm
    repeat (refine X_n rfl rfl rfl ?_)
    refine X_cd rfl rfl rfl rfl Y_thrown ?_
    repeat (refine X_n rfl rfl rfl ?_)
    refine X_bt rfl rfl rfl hthr ?_
    repeat (refine X_n rfl rfl rfl ?_)
    refine X_bf rfl rfl rfl (fun h => h rfl) ?_
    repeat (refine X_n rfl rfl rfl ?_)
    refine X_ln rfl rfl rfl rfl rfl (show 0 < 1 by omega) (show 1 < 2 ^ 31 by omega) ?_
    repeat (refine X_n rfl rfl rfl ?_)
    refine X_bt rfl rfl rfl (lg_eq hval) ?_
    refine X_n rfl rfl rfl ?_
    generalize j' * F.1 + i' = c' at *
    generalize F.2.2.2 (i + 3) = s at *
    refine K P _ _ _ _ _ (IV_chg (SS_rate hSS (fun k a1 a2 a3 a4 a5 a6 => by simp [mch, st_f, a1, a3, a4, a6]) (by simp [mch, st_r]) (by simp [mch, st_r]) (fun x hx => ?_)) (by simp [mch, st_r]) (by simp [mch, st_r]) (by simp [mch, st_r])) (hG.s ht)
    obtain ⟨n1, n2, n3⟩ := m4 x hx
    have ecx := cm_eqP hF hx hc
    by_cases ex : x = c'
    · subst ex
      refine ⟨by simp [mch, st_r], ?_, by simpa [mch, st_r] using n3⟩
      have : (-1 : Int32) ≤ s := e.1
      by_cases q : s < 0
      · left; simp [mch, st_r]; exact i32_neg this q
      · right; simp [mch, st_r]; exact Int32.not_lt.mp q
    · refine ⟨by simpa [mch, st_r, ex, ecx] using n1, by simpa [mch, st_r, ex] using n2, by simpa [mch, st_r] using n3⟩
theorem per_no {c : Nat} (hF : okF F) (h : SS F P C) (hc : c < F.1 * F.2.1) (h28 : C 28 c = -1) : ∀ p, p < P → ¬ C 175 p = nI (cm F c) := by
  have hn := hF.n
  obtain ⟨-, -, -, -, a5, ⟨-, -, m3, -⟩, -⟩ := h
  intro p hp e
  have hs := s0_lt hF a5 hp
  have h5 := (cm_in hF hc).2.2.2
  have h6 := (cm_in hF hs.1).2.2.2
  rw [(m3 p hp).1] at e
  have := cm_inj hF hs.1 hc ((nI_eq (by omega) (by omega)).mp e)
  obtain ⟨⟨c', c1, c2, c3, -⟩, -⟩ := a5.2.2.1 p hp
  have hP60 := a5.1
  have e2 : c' = c := by
    rw [← this]
    exact (nI_eq (by omega) (by omega)).mp (c2.symm.trans hs.2.1)
  rw [e2, h28] at c3
  exact absurd c3.symm (nI_nm1 (by omega))
theorem per_yes {c : Nat} (hF : okF F) (h : SS F P C) (hc : c < F.1 * F.2.1) (h28 : ¬ C 28 c = -1) : ∃ p, p < P ∧ C 175 p = nI (cm F c) := by
  have hn := hF.n
  obtain ⟨-, -, -, -, a5, ⟨-, -, m3, -⟩, -⟩ := h
  rcases a5.2.2.2 c hc with q | ⟨p, q1, q2, q3⟩
  · exact absurd q h28
  · refine ⟨p, q1, ?_⟩
    have hs := s0_lt hF a5 q1
    rw [(m3 p q1).1, show s0 C p = c from (nI_eq (by omega) (by omega)).mp (hs.2.1.symm.trans q3)]
theorem w170 {c : Nat} (h : SS F P C) (hc : c < F.1 * F.2.1) : C 170 (cm F c) = (if C 2 c = 1 then 1 else 0) ∧ C 171 (cm F c) = C 5 c ∧ C 169 7 = C 1 11 ∧ C 169 9 = nI P ∧ ((C 5 c = -1 ∧ ¬ C 2 c = 2) ∨ ∃ x, x < 8 ∧ C 5 c = nI x ∧ C 2 c = 2) := by
  obtain ⟨a1, -, -, -, -, ⟨m1, m2, -, -⟩, -⟩ := h
  refine ⟨(m1.1 c hc).1, (m1.1 c hc).2, m1.2.2, m2, ?_⟩
  obtain ⟨-, -, X8, hX, -, -, hE2⟩ := a1
  rcases hE2 c hc with q | ⟨x, q1, q2, q3, q4⟩
  · exact Or.inl q
  · exact Or.inr ⟨x, by omega, q2, q4⟩
theorem law_habit (hF : okF F) (hI : IV F P C) (hG : okX G t) (ht : t < 1000) (hL : i + 4 < F.2.2.1) (K : nxtL F t i Q) : X y_Law_law 547 [some (.ref 1000000002), some (.ref 0), some (.ref 169), some (.ref 193), some (.int (nI i)), x5, x6] [] (hp F C J G) Q := by
  have hF3 : F.2.2.1 ≤ 2562 := hF.2.2
  obtain ⟨hSS, -⟩ := id hI
  obtain ⟨⟨-, -, X8, hX8, h11, -, -⟩, -, -, -, a5, ⟨m1, m2, m3, -⟩, -⟩ := id hSS
  have hP60 := a5.1
  have h7 : C 169 7 = C 1 11 := m1.2.2
  repeat (refine X_n rfl rfl rfl ?_)
  refine X_li (k := i + 1) rfl rfl (nI_add i 1) (show i + 1 < F.2.2.1 by omega) (show F.2.2.1 < 2 ^ 31 by omega) ?_
  repeat (refine X_n rfl rfl rfl ?_)
  refine X_li (k := i + 2) rfl rfl (nI_add i 2) (show i + 2 < F.2.2.1 by omega) (show F.2.2.1 < 2 ^ 31 by omega) ?_
  repeat (refine X_n rfl rfl rfl ?_)
  refine X_k rfl rfl rfl rfl (Y_Lhabit hF hG hP60 a5.2.1 (fun h => ?_) (fun p a b c => ?_))
  · dsimp only
    repeat (refine X_n rfl rfl rfl ?_)
    refine X_li (k := i + 1) rfl rfl (nI_add i 1) (show i + 1 < F.2.2.1 by omega) (show F.2.2.1 < 2 ^ 31 by omega) ?_
    repeat (refine X_n rfl rfl rfl ?_)
    refine X_li (k := i + 2) rfl rfl (nI_add i 2) (show i + 2 < F.2.2.1 by omega) (show F.2.2.1 < 2 ^ 31 by omega) ?_
    rw [← m2, ← h7] at h
    refine X_cd rfl rfl rfl rfl (Y_mhabit_no h) ?_
    repeat (refine X_n rfl rfl rfl ?_)
    refine X_cd rfl rfl rfl rfl Y_thrown ?_
    repeat (refine X_n rfl rfl rfl ?_)
    refine X_bt rfl rfl rfl st_s ?_
    repeat (refine X_n rfl rfl rfl ?_)
    refine X_bt rfl rfl rfl (show ¬ (1 : Int32) = 0 by decide) ?_
    refine X_n rfl rfl rfl ?_
    exact K P _ _ _ _ _ (IV_no hI) (hG.gx ht 7)
  · have hp60 : p < 60 := by omega
    dsimp only
    repeat (refine X_n rfl rfl rfl ?_)
    refine X_li (k := i + 1) rfl rfl (nI_add i 1) (show i + 1 < F.2.2.1 by omega) (show F.2.2.1 < 2 ^ 31 by omega) ?_
    repeat (refine X_n rfl rfl rfl ?_)
    refine X_li (k := i + 2) rfl rfl (nI_add i 2) (show i + 2 < F.2.2.1 by omega) (show F.2.2.1 < 2 ^ 31 by omega) ?_
    rw [b]
    refine X_cd rfl rfl rfl rfl (Y_mhabit hF hP60 m2 a (by rw [← h7] at c; exact c)) ?_
    have hthr : mch (st (st (st (st C 27 p (F.2.2.2 (i + 2))) 0 5 0) 169 0 0) 178 p (F.2.2.2 (i + 2))) 169 0 = 0 := by simp [mch, st_r]
    have hval : C 27 p = st (st C 27 p (F.2.2.2 (i + 2))) 0 5 0 178 p := by rw [st_f (by omega), st_f (by omega)]; exact (m3 p a).2.2.2.symm
    repeat (refine X_n rfl rfl rfl ?_)
    refine X_cd rfl rfl rfl rfl Y_thrown ?_
    repeat (refine X_n rfl rfl rfl ?_)
    refine X_bt rfl rfl rfl hthr ?_
    repeat (refine X_n rfl rfl rfl ?_)
    refine X_bf rfl rfl rfl (fun h => h rfl) ?_
    repeat (refine X_n rfl rfl rfl ?_)
    refine X_ln rfl rfl rfl rfl rfl (show 0 < 1 by omega) (show 1 < 2 ^ 31 by omega) ?_
    repeat (refine X_n rfl rfl rfl ?_)
    refine X_bt rfl rfl rfl (lg_eq hval) ?_
    refine X_n rfl rfl rfl ?_
    generalize F.2.2.2 (i + 2) = v at *
    refine K P _ _ _ _ _ (IV_chg (SS_habit (v := v) hSS a ?_ (fun k a1 a2 a3 a4 => by simp [mch, st_f, a1, a2, a3, a4]) (by simp [mch, st_r]) (by simp [mch, st_r]) (fun x => by simp [mch, st_r]) (fun x => by simp [mch, st_r])) (by simp [mch, st_r]) (by simp [mch, st_r]) (by simp [mch, st_r])) (hG.s ht)
    by_cases q : v < 0
    · exact Or.inl (i32_neg c.1 q)
    · obtain ⟨x, hx, e⟩ := nI_of q
      right
      rw [e] at c ⊢
      refine ⟨x, rfl, ?_, c.2⟩
      have := c.2
      rw [h11] at this
      have := (nI_ltI hx (by omega)).mp this
      omega
theorem law_door (hF : okF F) (hI : IV F P C) (hG : okX G t) (ht : t < 1000) (hL : i + 4 < F.2.2.1) (K : nxtL F t i Q) : X y_Law_law 315 [some (.ref 1000000002), some (.ref 0), some (.ref 169), some (.ref 193), some (.int (nI i)), x5, x6] [] (hp F C J G) Q := by
  have hF3 : F.2.2.1 ≤ 2562 := hF.2.2
  obtain ⟨hSS, -⟩ := id hI
  repeat (refine X_n rfl rfl rfl ?_)
  refine X_li (k := i + 1) rfl rfl (nI_add i 1) (show i + 1 < F.2.2.1 by omega) (show F.2.2.1 < 2 ^ 31 by omega) ?_
  repeat (refine X_n rfl rfl rfl ?_)
  refine X_li (k := i + 2) rfl rfl (nI_add i 2) (show i + 2 < F.2.2.1 by omega) (show F.2.2.1 < 2 ^ 31 by omega) ?_
  repeat (refine X_n rfl rfl rfl ?_)
  refine X_li (k := i + 3) rfl rfl (nI_add i 3) (show i + 3 < F.2.2.1 by omega) (show F.2.2.1 < 2 ^ 31 by omega) ?_
  repeat (refine X_n rfl rfl rfl ?_)
  refine X_k rfl rfl rfl rfl (Y_Ldoor hF hG (fun h => ?_) (fun i' j' a b c d e f => ?_) (fun i' j' a b c d e f g => ?_))
  · dsimp only
    repeat (refine X_n rfl rfl rfl ?_)
    refine X_li (k := i + 1) rfl rfl (nI_add i 1) (show i + 1 < F.2.2.1 by omega) (show F.2.2.1 < 2 ^ 31 by omega) ?_
    repeat (refine X_n rfl rfl rfl ?_)
    refine X_li (k := i + 2) rfl rfl (nI_add i 2) (show i + 2 < F.2.2.1 by omega) (show F.2.2.1 < 2 ^ 31 by omega) ?_
    repeat (refine X_n rfl rfl rfl ?_)
    refine X_li (k := i + 3) rfl rfl (nI_add i 3) (show i + 3 < F.2.2.1 by omega) (show F.2.2.1 < 2 ^ 31 by omega) ?_
    refine X_cd rfl rfl rfl rfl (Y_mdoor_no h) ?_
    repeat (refine X_n rfl rfl rfl ?_)
    refine X_cd rfl rfl rfl rfl Y_thrown ?_
    repeat (refine X_n rfl rfl rfl ?_)
    refine X_bt rfl rfl rfl st_s ?_
    refine X_n rfl rfl rfl ?_
    exact K P _ _ _ _ _ (IV_no hI) (hG.gx ht 7)
  · have hc := ji_lt a b
    have ecm := cm_ji hF a b
    obtain ⟨w1, w2, -, -, w5⟩ := w170 hSS hc
    rw [ecm] at w1 w2
    dsimp only
    repeat (refine X_n rfl rfl rfl ?_)
    refine X_li (k := i + 1) rfl rfl (nI_add i 1) (show i + 1 < F.2.2.1 by omega) (show F.2.2.1 < 2 ^ 31 by omega) ?_
    repeat (refine X_n rfl rfl rfl ?_)
    refine X_li (k := i + 2) rfl rfl (nI_add i 2) (show i + 2 < F.2.2.1 by omega) (show F.2.2.1 < 2 ^ 31 by omega) ?_
    repeat (refine X_n rfl rfl rfl ?_)
    refine X_li (k := i + 3) rfl rfl (nI_add i 3) (show i + 3 < F.2.2.1 by omega) (show F.2.2.1 < 2 ^ 31 by omega) ?_
    rw [c, d]
    have h : C 170 (24 * j' + i') = 1 ∨ (C 170 (24 * j' + i') = 0 ∧ 0 ≤ C 171 (24 * j' + i')) := by
      rw [w1, w2]
      rcases f with q | q
      · rw [if_pos q]; exact Or.inl rfl
      · right
        rw [if_neg (by rw [q]; decide)]
        rcases w5 with ⟨-, z⟩ | ⟨x, z1, z2, -⟩
        · exact absurd q z
        · rw [z2]; exact ⟨rfl, nI_pos' (by omega)⟩
    refine X_cd rfl rfl rfl rfl (Y_mdoor_no2 hF a b e h) ?_
    repeat (refine X_n rfl rfl rfl ?_)
    refine X_cd rfl rfl rfl rfl Y_thrown ?_
    repeat (refine X_n rfl rfl rfl ?_)
    refine X_bt rfl rfl rfl st_s ?_
    refine X_n rfl rfl rfl ?_
    exact K P _ _ _ _ _ (IV_no hI) (hG.gx ht 8)
  · have hc := ji_lt a b
    have ecm := cm_ji hF a b
    obtain ⟨w1, w2, -, -, w5⟩ := w170 hSS hc
    rw [ecm] at w1 w2
    dsimp only
    repeat (refine X_n rfl rfl rfl ?_)
    refine X_li (k := i + 1) rfl rfl (nI_add i 1) (show i + 1 < F.2.2.1 by omega) (show F.2.2.1 < 2 ^ 31 by omega) ?_
    repeat (refine X_n rfl rfl rfl ?_)
    refine X_li (k := i + 2) rfl rfl (nI_add i 2) (show i + 2 < F.2.2.1 by omega) (show F.2.2.1 < 2 ^ 31 by omega) ?_
    repeat (refine X_n rfl rfl rfl ?_)
    refine X_li (k := i + 3) rfl rfl (nI_add i 3) (show i + 3 < F.2.2.1 by omega) (show F.2.2.1 < 2 ^ 31 by omega) ?_
    rw [c, d]
    have h0 : C 170 (24 * j' + i') = 0 := by rw [w1, if_neg f]
    have h1 : C 171 (24 * j' + i') < 0 := by
      rw [w2]
      rcases w5 with ⟨z, -⟩ | ⟨x, z1, z2, z3⟩
      · rw [z]; decide
      · exact absurd z3 g
    refine X_cd rfl rfl rfl rfl (Y_mdoor hF a b e h0 h1) ?_
    rw [← ecm]
    have hthr : mch (st (st (st (st (st C 2 (j' * F.1 + i') 3) 3 (j' * F.1 + i') (F.2.2.2 (i + 3))) 0 5 0) 169 0 0) 172 (cm F (j' * F.1 + i')) (F.2.2.2 (i + 3))) 169 0 = 0 := by simp [mch, st_r]
    repeat (refine X_n rfl rfl rfl ?_)
    refine X_cd rfl rfl rfl rfl Y_thrown ?_
    repeat (refine X_n rfl rfl rfl ?_)
    refine X_bt rfl rfl rfl hthr ?_
    refine X_n rfl rfl rfl ?_
    generalize j' * F.1 + i' = c' at *
    generalize F.2.2.2 (i + 3) = r at *
    have hr0 : ¬ r = 0 := fun q => by rw [q] at e; exact absurd e.1 (by decide)
    refine K P _ _ _ _ _ (IV_chg (SS_door (c := c') (r := r) hF hSS hc hr0 f g (fun k a1 a2 a3 a4 a5 => by simp [mch, st_f, a1, a2, a3, a4, a5]) (by simp [mch, st_r]) (by simp [mch, st_r]) (fun x => by simp [mch, st_r]) (fun x => by simp [mch, st_r]) (fun x => by simp [mch, st_r])) (by simp [mch, st_r]) (by simp [mch, st_r]) (by simp [mch, st_r])) (hG.s ht)
end
