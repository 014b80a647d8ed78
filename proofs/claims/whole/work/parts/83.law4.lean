/-! the law's cases: questions -/
section
variable {F : Fx} {C C' D : Ct} {J : Nat → Int64} {G : Ex} {Q : mE → mH → Prop} {t P i c : Nat} {x5 x6 : Option Value}
theorem okL_eq (h : okL F C) (h1 : C' 169 14 = C 169 14) (h2 : C' 179 = C 179) (h3 : C' 170 = C 170) (h4 : C' 171 = C 171) : okL F C' := by
  unfold okL at *
  rw [h1]
  rcases h with q | ⟨q1, q2⟩
  · exact Or.inl q
  · refine Or.inr ⟨q1, fun wh hw => ?_⟩
    have : nuM C' wh = nuM C wh := by unfold nuM; rw [h2]
    rw [this]
    exact rowOkM_eq h3 h4 (q2 wh hw)
theorem IV_N (h : IV F P C) (s : sameN C C') (n : okN F C') : IV F P C' :=
  IV_ask h (fun k a _ _ _ _ _ => s k (by omega) (by omega) (by omega)) (fun j _ _ => by rw [s 169 (by omega) (by omega) (by omega)]) n (okL_eq h.2.1 (by rw [s 169 (by omega) (by omega) (by omega)]) (s 179 (by omega) (by omega) (by omega)) (s 170 (by omega) (by omega) (by omega)) (s 171 (by omega) (by omega) (by omega)))
theorem IV_L (h : IV F P C) (s : sameQ C C') (hL : okL F C') : IV F P C' :=
  IV_ask h (fun k _ _ a b c d => s.1 k a b c d) s.2 (okN_eq h.1.2.2.2.1 (fun k hk => s.1 k (by omega) (by omega) (by omega) (by omega)) (fun k _ _ => s.1 k (by omega) (by omega) (by omega) (by omega))) hL
theorem IV_G (h : IV F P C) (s : sameG C D) : IV F P D :=
  IV_ask h (fun k _ a _ _ _ _ => s k a) (fun j _ _ => by rw [s 169 (by omega)]) (okN_eq h.1.2.2.2.1 (fun k hk => s k (by omega)) (fun k _ _ => s k (by omega))) (okL_eq h.2.1 (by rw [s 169 (by omega)]) (s 179 (by omega)) (s 170 (by omega)) (s 171 (by omega)))
theorem law_ways (hF : okF F) (hI : IV F P C) (hG : okX G t) (ht : t < 1000) (K : nxtL F t i Q) : X y_Law_law 615 [some (.ref 1000000002), some (.ref 0), some (.ref 169), some (.ref 193), some (.int (nI i)), x5, x6] [] (hp F C J G) Q := by
  repeat (refine X_n rfl rfl rfl ?_)
  refine X_k rfl rfl rfl rfl (Y_ways hF hI.1.1 hI.1.2.2.2.1 (fun C' s n => ?_))
  have hI' := IV_N hI s n
  obtain ⟨⟨a1, a2, a3, a4, a5, a6, a7⟩, b, -⟩ := id hI'
  dsimp only
  repeat (refine X_n rfl rfl rfl ?_)
  refine X_k rfl rfl rfl rfl (Y_mways hF a1 a2 a6.1 a7 b (fun C'' s2 e14 hr => ?_))
  dsimp only
  have e : hasN F C' = hasN F C := by unfold hasN; rw [nuC_cfg s.cfg]
  refine X_bt rfl rfl rfl (by rw [e]; exact rfl) ?_
  exact K P _ _ _ _ _ (IV_L hI' s2.q (Or.inr ⟨e14, hr⟩)) (hG.s ht)
theorem law_turns (hF : okF F) (hI : IV F P C) (hG : okX G t) (ht : t < 1000) (K : nxtL F t i Q) : X y_Law_law 993 [some (.ref 1000000002), some (.ref 0), some (.ref 169), some (.ref 193), some (.int (nI i)), x5, x6] [] (hp F C J G) Q := by
  repeat (refine X_n rfl rfl rfl ?_)
  refine X_k rfl rfl rfl rfl (Y_turns hF hI.1.1 hI.1.2.2.2.1 (fun C' s n => ?_))
  have hI' := IV_N hI s n
  obtain ⟨⟨a1, a2, a3, a4, a5, a6, a7⟩, b, -⟩ := id hI'
  dsimp only
  repeat (refine X_n rfl rfl rfl ?_)
  refine X_k rfl rfl rfl rfl (Y_mturns hF a1 a2 a6.1 a7 b (fun C'' s2 e14 hr _ => ?_))
  dsimp only
  have e : isT F C' = isT F C := isT_cfg s.cfg
  refine X_bt rfl rfl rfl (by rw [e]; exact rfl) ?_
  exact K P _ _ _ _ _ (IV_L hI' s2.q (Or.inr ⟨e14, hr⟩)) (hG.s ht)
theorem law_signs (hF : okF F) (hI : IV F P C) (hG : okX G t) (ht : t < 1000) (K : nxtL F t i Q) : X y_Law_law 1006 [some (.ref 1000000002), some (.ref 0), some (.ref 169), some (.ref 193), some (.int (nI i)), x5, x6] [] (hp F C J G) Q := by
  have hS := hI.1.1
  have hg := hI.1.2.1
  have key : ∀ C' D, sameN C C' → okN F C' → sameG C' D → IV F P D ∧ cfg C D := fun C' D s n g => ⟨IV_G (IV_N hI s n) g, fun k hk => by rw [g k (by omega)]; exact s.cfg k hk⟩
  have efam : ∀ D, cfg C D → famS F D (lst (isT F C) (F.1 * F.2.1)) = famS F C (lst (isT F C) (F.1 * F.2.1)) := fun D c => by
    funext m
    unfold famS shw near
    simp only [nbC_cfg c]
  repeat (refine X_n rfl rfl rfl ?_)
  refine X_k rfl rfl rfl rfl (Y_signs hF hS hg hI.1.2.2.2.1 (fun C' D s n g h13 => ?_) (fun C' D f s n g h12 hst hsn hf0 => ?_))
  · obtain ⟨hID, cD⟩ := key C' D s n g
    obtain ⟨⟨a1, a2, a3, a4, a5, a6, a7⟩, b, -⟩ := id hID
    dsimp only
    repeat (refine X_n rfl rfl rfl ?_)
    refine X_k rfl rfl rfl rfl (Y_msigns (T := lst (isT F C) (F.1 * F.2.1)) hF a1 a2 a6.1 a7 b (by rw [isT_cfg cD]) (fun E q e0 hL _ => ?_) (fun E f' q e0 hL h12 => absurd h12 (by omega)))
    dsimp only
    refine X_bt rfl rfl rfl rfl ?_
    exact K P _ _ _ _ _ (IV_L hID q hL) (hG.s ht)
  · obtain ⟨hID, cD⟩ := key C' D s n g
    obtain ⟨⟨a1, a2, a3, a4, a5, a6, a7⟩, b, -⟩ := id hID
    dsimp only
    repeat (refine X_n rfl rfl rfl ?_)
    refine X_k rfl rfl rfl rfl (Y_msigns (T := lst (isT F C) (F.1 * F.2.1)) hF a1 a2 a6.1 a7 b (by rw [isT_cfg cD]) (fun E q e0 hL h13 => absurd h13 (by omega)) (fun E f' q e0 hL _ hst' hsn' hf0' _ => ?_))
    rw [efam D cD] at hst' hsn'
    have hfam : ∀ m, famS F C (lst (isT F C) (F.1 * F.2.1)) m → m < 2 ^ (lst (isT F C) (F.1 * F.2.1)).length := fun m ⟨c, hc, e⟩ => by rw [e]; exact (shw_lt h12).1
    have heq := (cov_eq h12 hfam hst hst' hsn hsn' hf0 hf0' (fun t' ht' => by
      have hx := lst_mem.mp (getD_mem ht')
      exact ⟨_, ⟨_, hx.1, rfl⟩, shw_bit.mpr ⟨ht', Or.inl rfl⟩⟩)).1
    dsimp only
    refine X_bt rfl rfl rfl (by rw [heq]; exact rfl) ?_
    exact K P _ _ _ _ _ (IV_L hID q hL) (hG.s ht)
theorem law_walk (hF : okF F) (hI : IV F P C) (hG : okX G t) (ht : t < 1000) (hL : i + 4 < F.2.2.1) (K : nxtL F t i Q) : X y_Law_law 628 [some (.ref 1000000002), some (.ref 0), some (.ref 169), some (.ref 193), some (.int (nI i)), x5, x6] [] (hp F C J G) Q := by
  have hF3 : F.2.2.1 ≤ 2562 := hF.2.2
  have h7 : C 169 7 = C 1 11 := hI.1.2.2.2.2.2.1.1.2.2
  repeat (refine X_n rfl rfl rfl ?_)
  refine X_li (k := i + 1) rfl rfl (nI_add i 1) (show i + 1 < F.2.2.1 by omega) (show F.2.2.1 < 2 ^ 31 by omega) ?_
  repeat (refine X_n rfl rfl rfl ?_)
  refine X_li (k := i + 2) rfl rfl (nI_add i 2) (show i + 2 < F.2.2.1 by omega) (show F.2.2.1 < 2 ^ 31 by omega) ?_
  repeat (refine X_n rfl rfl rfl ?_)
  refine X_li (k := i + 3) rfl rfl (nI_add i 3) (show i + 3 < F.2.2.1 by omega) (show F.2.2.1 < 2 ^ 31 by omega) ?_
  repeat (refine X_n rfl rfl rfl ?_)
  refine X_k rfl rfl rfl rfl (Y_Lwalk hF hG hI.1.1 hI.1.2.2.2.1 (fun h => ?_) (fun i' j' r C' a b c d e f g s n => ?_))
  · dsimp only
    repeat (refine X_n rfl rfl rfl ?_)
    refine X_li (k := i + 1) rfl rfl (nI_add i 1) (show i + 1 < F.2.2.1 by omega) (show F.2.2.1 < 2 ^ 31 by omega) ?_
    repeat (refine X_n rfl rfl rfl ?_)
    refine X_li (k := i + 2) rfl rfl (nI_add i 2) (show i + 2 < F.2.2.1 by omega) (show F.2.2.1 < 2 ^ 31 by omega) ?_
    repeat (refine X_n rfl rfl rfl ?_)
    refine X_li (k := i + 3) rfl rfl (nI_add i 3) (show i + 3 < F.2.2.1 by omega) (show F.2.2.1 < 2 ^ 31 by omega) ?_
    rw [← h7] at h
    refine X_cd rfl rfl rfl rfl (Y_mwalk_no h) ?_
    repeat (refine X_n rfl rfl rfl ?_)
    refine X_cd rfl rfl rfl rfl Y_thrown ?_
    repeat (refine X_n rfl rfl rfl ?_)
    refine X_bt rfl rfl rfl st_s ?_
    repeat (refine X_n rfl rfl rfl ?_)
    refine X_bt rfl rfl rfl (show ¬ (1 : Int32) = 0 by decide) ?_
    refine X_n rfl rfl rfl ?_
    exact K P _ _ _ _ _ (IV_no hI) (hG.gx ht 7)
  · have hI' := IV_N hI s n
    obtain ⟨⟨a1, a2, a3, a4, a5, a6, a7⟩, b', -⟩ := id hI'
    have g' : nI r ≤ C' 169 7 := by rw [s 169 (by omega) (by omega) (by omega), h7]; exact g
    dsimp only
    repeat (refine X_n rfl rfl rfl ?_)
    refine X_li (k := i + 1) rfl rfl (nI_add i 1) (show i + 1 < F.2.2.1 by omega) (show F.2.2.1 < 2 ^ 31 by omega) ?_
    repeat (refine X_n rfl rfl rfl ?_)
    refine X_li (k := i + 2) rfl rfl (nI_add i 2) (show i + 2 < F.2.2.1 by omega) (show F.2.2.1 < 2 ^ 31 by omega) ?_
    repeat (refine X_n rfl rfl rfl ?_)
    refine X_li (k := i + 3) rfl rfl (nI_add i 3) (show i + 3 < F.2.2.1 by omega) (show F.2.2.1 < 2 ^ 31 by omega) ?_
    rw [c, d]
    refine X_k rfl rfl rfl rfl (Y_mwalk hF a1 a2 a6.1 a7 b' a b e f g' (fun C'' s2 e14 hr => ?_))
    have hthr : C'' 169 0 = 0 := by rw [s2.2 0 (by omega), st_s]
    have hval : nuC F C r (j' * F.1 + i') = nuC F C' r (j' * F.1 + i') := by rw [nuC_cfg s.cfg]
    dsimp only
    repeat (refine X_n rfl rfl rfl ?_)
    refine X_cd rfl rfl rfl rfl Y_thrown ?_
    repeat (refine X_n rfl rfl rfl ?_)
    refine X_bt rfl rfl rfl hthr ?_
    repeat (refine X_n rfl rfl rfl ?_)
    refine X_bf rfl rfl rfl (fun h => h rfl) ?_
    repeat (refine X_n rfl rfl rfl ?_)
    refine X_ln rfl rfl rfl rfl rfl (show 0 < 1 by omega) (show 1 < 2 ^ 31 by omega) ?_
    repeat (refine X_n rfl rfl rfl ?_)
    refine X_bt rfl rfl rfl (lg_eq hval) ?_
    refine X_n rfl rfl rfl ?_
    exact K P _ _ _ _ _ (IV_L hI' s2.q (Or.inr ⟨e14, hr⟩)) (hG.s ht)
/-- what is kept of the run, person by person -/
theorem IV_run (hF : okF F) (hI : IV F P C) (h : C 0 5 = 1) : (∀ p, p < P → cqP (fin F C P).2 C p ∧ mqP F (fin F C P).2 C p ∧ pinv F C (fin F C P).1 (fin F C P).2 p) ∧ (fin F C P).1 ≤ 3600 ∧ ∀ c, c < F.1 * F.2.1 → C 34 c = C 189 (cm F c) := by
  obtain ⟨⟨a1, -, -, -, a5, -, -⟩, -, -, -, hr⟩ := hI
  obtain ⟨r1, r2⟩ := hr h
  obtain ⟨i1, i2⟩ := fin_inv hF a1 a5
  exact ⟨fun p hp => ⟨r1.1 p hp, r2.1 p hp, i1.1 p hp⟩, i2, fun c hc => (r1.2.1 c hc).trans (r2.2.1 c hc).symm⟩
theorem law_told (hF : okF F) (hI : IV F P C) (hG : okX G t) (ht : t < 1000) (hL : i + 4 < F.2.2.1) (K : nxtL F t i Q) : X y_Law_law 721 [some (.ref 1000000002), some (.ref 0), some (.ref 169), some (.ref 193), some (.int (nI i)), x5, x6] [] (hp F C J G) Q := by
  have hF3 : F.2.2.1 ≤ 2562 := hF.2.2
  obtain ⟨⟨-, -, -, -, a5, ⟨-, m2, -, -⟩, -⟩, -, hb, h17, -⟩ := id hI
  have hP60 := a5.1
  repeat (refine X_n rfl rfl rfl ?_)
  refine X_li (k := i + 1) rfl rfl (nI_add i 1) (show i + 1 < F.2.2.1 by omega) (show F.2.2.1 < 2 ^ 31 by omega) ?_
  repeat (refine X_n rfl rfl rfl ?_)
  refine X_li (k := i + 2) rfl rfl (nI_add i 2) (show i + 2 < F.2.2.1 by omega) (show F.2.2.1 < 2 ^ 31 by omega) ?_
  repeat (refine X_n rfl rfl rfl ?_)
  refine X_k rfl rfl rfl rfl (Y_Ltold (P := P) hF hG hP60 a5.2.1 hb (fun h => ?_) (fun p j a b c d e => ?_) (fun p j a b c d e => ?_))
  · dsimp only
    repeat (refine X_n rfl rfl rfl ?_)
    refine X_li (k := i + 1) rfl rfl (nI_add i 1) (show i + 1 < F.2.2.1 by omega) (show F.2.2.1 < 2 ^ 31 by omega) ?_
    repeat (refine X_n rfl rfl rfl ?_)
    refine X_li (k := i + 2) rfl rfl (nI_add i 2) (show i + 2 < F.2.2.1 by omega) (show F.2.2.1 < 2 ^ 31 by omega) ?_
    rw [a5.2.1, ← m2] at h
    refine X_cd rfl rfl rfl rfl (Y_mtold_no h) ?_
    repeat (refine X_n rfl rfl rfl ?_)
    refine X_cd rfl rfl rfl rfl Y_thrown ?_
    repeat (refine X_n rfl rfl rfl ?_)
    refine X_bt rfl rfl rfl st_s ?_
    repeat (refine X_n rfl rfl rfl ?_)
    refine X_bt rfl rfl rfl (show ¬ (1 : Int32) = 0 by decide) ?_
    refine X_n rfl rfl rfl ?_
    exact K P _ _ _ _ _ (IV_no hI) (hG.gx ht 7)
  · dsimp only
    repeat (refine X_n rfl rfl rfl ?_)
    refine X_li (k := i + 1) rfl rfl (nI_add i 1) (show i + 1 < F.2.2.1 by omega) (show F.2.2.1 < 2 ^ 31 by omega) ?_
    repeat (refine X_n rfl rfl rfl ?_)
    refine X_li (k := i + 2) rfl rfl (nI_add i 2) (show i + 2 < F.2.2.1 by omega) (show F.2.2.1 < 2 ^ 31 by omega) ?_
    rw [b, d]
    refine X_cd rfl rfl rfl rfl (Y_mtold_no2 hP60 m2 a c (h17.trans e)) ?_
    repeat (refine X_n rfl rfl rfl ?_)
    refine X_cd rfl rfl rfl rfl Y_thrown ?_
    repeat (refine X_n rfl rfl rfl ?_)
    refine X_bt rfl rfl rfl st_s ?_
    repeat (refine X_n rfl rfl rfl ?_)
    refine X_bt rfl rfl rfl (show ¬ (2 : Int32) = 0 by decide) ?_
    refine X_n rfl rfl rfl ?_
    exact K P _ _ _ _ _ (IV_no hI) (hG.gx ht 8)
  · obtain ⟨hq, -, -⟩ := IV_run hF hI e
    obtain ⟨q1, q2, -⟩ := hq p a
    dsimp only
    repeat (refine X_n rfl rfl rfl ?_)
    refine X_li (k := i + 1) rfl rfl (nI_add i 1) (show i + 1 < F.2.2.1 by omega) (show F.2.2.1 < 2 ^ 31 by omega) ?_
    repeat (refine X_n rfl rfl rfl ?_)
    refine X_li (k := i + 2) rfl rfl (nI_add i 2) (show i + 2 < F.2.2.1 by omega) (show F.2.2.1 < 2 ^ 31 by omega) ?_
    rw [b, d]
    refine X_cd rfl rfl rfl rfl (Y_mtold hF hP60 m2 a c (h17.trans e)) ?_
    have hthr : st C 169 0 0 169 0 = 0 := st_s
    have hval : C (30 + j) p = C (181 + j) p := by
      have : j = 0 ∨ j = 1 ∨ j = 2 ∨ j = 3 := by omega
      rcases this with z | z | z | z <;> subst z
      · exact q1.1.trans q2.1.symm
      · exact q1.2.1.trans q2.2.1.symm
      · exact q1.2.2.1.trans q2.2.2.1.symm
      · exact q1.2.2.2.1.trans q2.2.2.2.1.symm
    repeat (refine X_n rfl rfl rfl ?_)
    refine X_cd rfl rfl rfl rfl Y_thrown ?_
    repeat (refine X_n rfl rfl rfl ?_)
    refine X_bt rfl rfl rfl hthr ?_
    repeat (refine X_n rfl rfl rfl ?_)
    refine X_bf rfl rfl rfl (fun h => h rfl) ?_
    repeat (refine X_n rfl rfl rfl ?_)
    refine X_ln rfl rfl rfl rfl rfl (show 0 < 1 by omega) (show 1 < 2 ^ 31 by omega) ?_
    repeat (refine X_n rfl rfl rfl ?_)
    refine X_bt rfl rfl rfl (lg_eq hval) ?_
    refine X_n rfl rfl rfl ?_
    exact K P _ _ _ _ _ (IV_no hI) (hG.s ht)
theorem law_through (hF : okF F) (hI : IV F P C) (hG : okX G t) (ht : t < 1000) (hL : i + 4 < F.2.2.1) (K : nxtL F t i Q) : X y_Law_law 869 [some (.ref 1000000002), some (.ref 0), some (.ref 169), some (.ref 193), some (.int (nI i)), x5, x6] [] (hp F C J G) Q := by
  have hF3 : F.2.2.1 ≤ 2562 := hF.2.2
  obtain ⟨-, -, hb, h17, -⟩ := id hI
  repeat (refine X_n rfl rfl rfl ?_)
  refine X_li (k := i + 1) rfl rfl (nI_add i 1) (show i + 1 < F.2.2.1 by omega) (show F.2.2.1 < 2 ^ 31 by omega) ?_
  repeat (refine X_n rfl rfl rfl ?_)
  refine X_li (k := i + 2) rfl rfl (nI_add i 2) (show i + 2 < F.2.2.1 by omega) (show F.2.2.1 < 2 ^ 31 by omega) ?_
  repeat (refine X_n rfl rfl rfl ?_)
  refine X_k rfl rfl rfl rfl (Y_Lthrough hF hG hb (fun h => ?_) (fun i' j' a b c d e => ?_) (fun i' j' a b c d e => ?_))
  · dsimp only
    repeat (refine X_n rfl rfl rfl ?_)
    refine X_li (k := i + 1) rfl rfl (nI_add i 1) (show i + 1 < F.2.2.1 by omega) (show F.2.2.1 < 2 ^ 31 by omega) ?_
    repeat (refine X_n rfl rfl rfl ?_)
    refine X_li (k := i + 2) rfl rfl (nI_add i 2) (show i + 2 < F.2.2.1 by omega) (show F.2.2.1 < 2 ^ 31 by omega) ?_
    refine X_cd rfl rfl rfl rfl (Y_mthrough_no h) ?_
    repeat (refine X_n rfl rfl rfl ?_)
    refine X_cd rfl rfl rfl rfl Y_thrown ?_
    repeat (refine X_n rfl rfl rfl ?_)
    refine X_bt rfl rfl rfl st_s ?_
    repeat (refine X_n rfl rfl rfl ?_)
    refine X_bt rfl rfl rfl (show ¬ (1 : Int32) = 0 by decide) ?_
    refine X_n rfl rfl rfl ?_
    exact K P _ _ _ _ _ (IV_no hI) (hG.gx ht 7)
  · dsimp only
    repeat (refine X_n rfl rfl rfl ?_)
    refine X_li (k := i + 1) rfl rfl (nI_add i 1) (show i + 1 < F.2.2.1 by omega) (show F.2.2.1 < 2 ^ 31 by omega) ?_
    repeat (refine X_n rfl rfl rfl ?_)
    refine X_li (k := i + 2) rfl rfl (nI_add i 2) (show i + 2 < F.2.2.1 by omega) (show F.2.2.1 < 2 ^ 31 by omega) ?_
    rw [c, d]
    refine X_cd rfl rfl rfl rfl (Y_mthrough_no2 hF a b (h17.trans e)) ?_
    repeat (refine X_n rfl rfl rfl ?_)
    refine X_cd rfl rfl rfl rfl Y_thrown ?_
    repeat (refine X_n rfl rfl rfl ?_)
    refine X_bt rfl rfl rfl st_s ?_
    repeat (refine X_n rfl rfl rfl ?_)
    refine X_bt rfl rfl rfl (show ¬ (2 : Int32) = 0 by decide) ?_
    refine X_n rfl rfl rfl ?_
    exact K P _ _ _ _ _ (IV_no hI) (hG.gx ht 8)
  · obtain ⟨-, -, h3⟩ := IV_run hF hI e
    have h3 := h3 _ (ji_lt a b)
    rw [cm_ji hF a b] at h3
    dsimp only
    repeat (refine X_n rfl rfl rfl ?_)
    refine X_li (k := i + 1) rfl rfl (nI_add i 1) (show i + 1 < F.2.2.1 by omega) (show F.2.2.1 < 2 ^ 31 by omega) ?_
    repeat (refine X_n rfl rfl rfl ?_)
    refine X_li (k := i + 2) rfl rfl (nI_add i 2) (show i + 2 < F.2.2.1 by omega) (show F.2.2.1 < 2 ^ 31 by omega) ?_
    rw [c, d]
    refine X_cd rfl rfl rfl rfl (Y_mthrough hF a b (h17.trans e)) ?_
    have hthr : st C 169 0 0 169 0 = 0 := st_s
    have hval := h3
    repeat (refine X_n rfl rfl rfl ?_)
    refine X_cd rfl rfl rfl rfl Y_thrown ?_
    repeat (refine X_n rfl rfl rfl ?_)
    refine X_bt rfl rfl rfl hthr ?_
    repeat (refine X_n rfl rfl rfl ?_)
    refine X_bf rfl rfl rfl (fun h => h rfl) ?_
    repeat (refine X_n rfl rfl rfl ?_)
    refine X_ln rfl rfl rfl rfl rfl (show 0 < 1 by omega) (show 1 < 2 ^ 31 by omega) ?_
    repeat (refine X_n rfl rfl rfl ?_)
    refine X_bt rfl rfl rfl (lg_eq hval) ?_
    refine X_n rfl rfl rfl ?_
    exact K P _ _ _ _ _ (IV_no hI) (hG.s ht)
theorem law_left (hF : okF F) (hI : IV F P C) (hG : okX G t) (ht : t < 1000) (hL : i + 4 < F.2.2.1) (K : nxtL F t i Q) : X y_Law_law 937 [some (.ref 1000000002), some (.ref 0), some (.ref 169), some (.ref 193), some (.int (nI i)), x5, x6] [] (hp F C J G) Q := by
  have hF3 : F.2.2.1 ≤ 2562 := hF.2.2
  obtain ⟨⟨a1, -, -, -, a5, a6, -⟩, -, hb, h17, -⟩ := id hI
  have hT := (fin_inv hF a1 a5).2
  repeat (refine X_n rfl rfl rfl ?_)
  refine X_li (k := i + 1) rfl rfl (nI_add i 1) (show i + 1 < F.2.2.1 by omega) (show F.2.2.1 < 2 ^ 31 by omega) ?_
  repeat (refine X_n rfl rfl rfl ?_)
  refine X_k rfl rfl rfl rfl (Y_Lleft (A := (fin F C P).2) hF hG a5 hb (fun e p hp => ⟨((IV_run hF hI e).1 p hp).1, ((IV_run hF hI e).1 p hp).2.2⟩) hT (fun h => ?_) (fun a b => ?_) (fun a b => ?_))
  · dsimp only
    repeat (refine X_n rfl rfl rfl ?_)
    refine X_li (k := i + 1) rfl rfl (nI_add i 1) (show i + 1 < F.2.2.1 by omega) (show F.2.2.1 < 2 ^ 31 by omega) ?_
    refine X_cd rfl rfl rfl rfl (Y_mleft_no h) ?_
    repeat (refine X_n rfl rfl rfl ?_)
    refine X_cd rfl rfl rfl rfl Y_thrown ?_
    repeat (refine X_n rfl rfl rfl ?_)
    refine X_bt rfl rfl rfl st_s ?_
    repeat (refine X_n rfl rfl rfl ?_)
    refine X_bt rfl rfl rfl (show ¬ (1 : Int32) = 0 by decide) ?_
    refine X_n rfl rfl rfl ?_
    exact K P _ _ _ _ _ (IV_no hI) (hG.gx ht 7)
  · dsimp only
    repeat (refine X_n rfl rfl rfl ?_)
    refine X_li (k := i + 1) rfl rfl (nI_add i 1) (show i + 1 < F.2.2.1 by omega) (show F.2.2.1 < 2 ^ 31 by omega) ?_
    refine X_cd rfl rfl rfl rfl (Y_mleft_no2 a (h17.trans b)) ?_
    repeat (refine X_n rfl rfl rfl ?_)
    refine X_cd rfl rfl rfl rfl Y_thrown ?_
    repeat (refine X_n rfl rfl rfl ?_)
    refine X_bt rfl rfl rfl st_s ?_
    repeat (refine X_n rfl rfl rfl ?_)
    refine X_bt rfl rfl rfl (show ¬ (2 : Int32) = 0 by decide) ?_
    refine X_n rfl rfl rfl ?_
    exact K P _ _ _ _ _ (IV_no hI) (hG.gx ht 8)
  · dsimp only
    repeat (refine X_n rfl rfl rfl ?_)
    refine X_li (k := i + 1) rfl rfl (nI_add i 1) (show i + 1 < F.2.2.1 by omega) (show F.2.2.1 < 2 ^ 31 by omega) ?_
    refine X_cd rfl rfl rfl rfl (Y_mleft (A := (fin F C P).2) hF a5 a6 a (h17.trans b) (fun p hp => ⟨((IV_run hF hI b).1 p hp).2.1, ((IV_run hF hI b).1 p hp).2.2⟩) hT) ?_
    have hthr : st C 169 0 0 169 0 = 0 := st_s
    have hval : nI (cB (fin F C P).2 (F.2.2.2 (i + 1)) P) = nI (cB (fin F C P).2 (F.2.2.2 (i + 1)) P) := rfl
    repeat (refine X_n rfl rfl rfl ?_)
    refine X_cd rfl rfl rfl rfl Y_thrown ?_
    repeat (refine X_n rfl rfl rfl ?_)
    refine X_bt rfl rfl rfl hthr ?_
    repeat (refine X_n rfl rfl rfl ?_)
    refine X_bf rfl rfl rfl (fun h => h rfl) ?_
    repeat (refine X_n rfl rfl rfl ?_)
    refine X_ln rfl rfl rfl rfl rfl (show 0 < 1 by omega) (show 1 < 2 ^ 31 by omega) ?_
    repeat (refine X_n rfl rfl rfl ?_)
    refine X_bt rfl rfl rfl (lg_eq hval) ?_
    refine X_n rfl rfl rfl ?_
    exact K P _ _ _ _ _ (IV_no hI) (hG.s ht)
theorem law_at (hF : okF F) (hI : IV F P C) (hG : okX G t) (ht : t < 1000) (hL : i + 4 < F.2.2.1) (K : nxtL F t i Q) : X y_Law_law 789 [some (.ref 1000000002), some (.ref 0), some (.ref 169), some (.ref 193), some (.int (nI i)), x5, x6] [] (hp F C J G) Q := by
  have hF3 : F.2.2.1 ≤ 2562 := hF.2.2
  obtain ⟨⟨a1, -, a3, -, a5, a6, -⟩, -, hb, h17, -⟩ := id hI
  have hP60 := a5.1
  have hT := (fin_inv hF a1 a5).2
  repeat (refine X_n rfl rfl rfl ?_)
  refine X_li (k := i + 1) rfl rfl (nI_add i 1) (show i + 1 < F.2.2.1 by omega) (show F.2.2.1 < 2 ^ 31 by omega) ?_
  repeat (refine X_n rfl rfl rfl ?_)
  refine X_li (k := i + 2) rfl rfl (nI_add i 2) (show i + 2 < F.2.2.1 by omega) (show F.2.2.1 < 2 ^ 31 by omega) ?_
  repeat (refine X_n rfl rfl rfl ?_)
  refine X_li (k := i + 3) rfl rfl (nI_add i 3) (show i + 3 < F.2.2.1 by omega) (show F.2.2.1 < 2 ^ 31 by omega) ?_
  repeat (refine X_n rfl rfl rfl ?_)
  refine X_k rfl rfl rfl rfl (Y_Lat (A := (fin F C P).2) hF hG a5 hb (fun e p hp => ⟨((IV_run hF hI e).1 p hp).1, ((IV_run hF hI e).1 p hp).2.2⟩) hT a3 (fun h => ?_) (fun p j a b c d e f => ?_) (fun p j a b c d e f g => ?_) (fun p j a b c d e f g => ?_))
  · dsimp only
    repeat (refine X_n rfl rfl rfl ?_)
    refine X_li (k := i + 1) rfl rfl (nI_add i 1) (show i + 1 < F.2.2.1 by omega) (show F.2.2.1 < 2 ^ 31 by omega) ?_
    repeat (refine X_n rfl rfl rfl ?_)
    refine X_li (k := i + 2) rfl rfl (nI_add i 2) (show i + 2 < F.2.2.1 by omega) (show F.2.2.1 < 2 ^ 31 by omega) ?_
    repeat (refine X_n rfl rfl rfl ?_)
    refine X_li (k := i + 3) rfl rfl (nI_add i 3) (show i + 3 < F.2.2.1 by omega) (show F.2.2.1 < 2 ^ 31 by omega) ?_
    rw [a5.2.1, ← a6.2.1] at h
    refine X_cd rfl rfl rfl rfl (Y_mat_no h) ?_
    repeat (refine X_n rfl rfl rfl ?_)
    refine X_cd rfl rfl rfl rfl Y_thrown ?_
    repeat (refine X_n rfl rfl rfl ?_)
    refine X_bt rfl rfl rfl st_s ?_
    repeat (refine X_n rfl rfl rfl ?_)
    refine X_bt rfl rfl rfl (show ¬ (1 : Int32) = 0 by decide) ?_
    refine X_n rfl rfl rfl ?_
    exact K P _ _ _ _ _ (IV_no hI) (hG.gx ht 7)
  · dsimp only
    repeat (refine X_n rfl rfl rfl ?_)
    refine X_li (k := i + 1) rfl rfl (nI_add i 1) (show i + 1 < F.2.2.1 by omega) (show F.2.2.1 < 2 ^ 31 by omega) ?_
    repeat (refine X_n rfl rfl rfl ?_)
    refine X_li (k := i + 2) rfl rfl (nI_add i 2) (show i + 2 < F.2.2.1 by omega) (show F.2.2.1 < 2 ^ 31 by omega) ?_
    repeat (refine X_n rfl rfl rfl ?_)
    refine X_li (k := i + 3) rfl rfl (nI_add i 3) (show i + 3 < F.2.2.1 by omega) (show F.2.2.1 < 2 ^ 31 by omega) ?_
    rw [b, e]
    refine X_cd rfl rfl rfl rfl (Y_mat_no2 hP60 a6.2.1 a c d (h17.trans f)) ?_
    repeat (refine X_n rfl rfl rfl ?_)
    refine X_cd rfl rfl rfl rfl Y_thrown ?_
    repeat (refine X_n rfl rfl rfl ?_)
    refine X_bt rfl rfl rfl st_s ?_
    repeat (refine X_n rfl rfl rfl ?_)
    refine X_bt rfl rfl rfl (show ¬ (2 : Int32) = 0 by decide) ?_
    refine X_n rfl rfl rfl ?_
    exact K P _ _ _ _ _ (IV_no hI) (hG.gx ht 8)
  · obtain ⟨-, q2, q3⟩ := (IV_run hF hI f).1 p a
    dsimp only
    repeat (refine X_n rfl rfl rfl ?_)
    refine X_li (k := i + 1) rfl rfl (nI_add i 1) (show i + 1 < F.2.2.1 by omega) (show F.2.2.1 < 2 ^ 31 by omega) ?_
    repeat (refine X_n rfl rfl rfl ?_)
    refine X_li (k := i + 2) rfl rfl (nI_add i 2) (show i + 2 < F.2.2.1 by omega) (show F.2.2.1 < 2 ^ 31 by omega) ?_
    repeat (refine X_n rfl rfl rfl ?_)
    refine X_li (k := i + 3) rfl rfl (nI_add i 3) (show i + 3 < F.2.2.1 by omega) (show F.2.2.1 < 2 ^ 31 by omega) ?_
    rw [b, e]
    have hthr : st C 169 0 0 169 0 = 0 := st_s
    refine X_k rfl rfl rfl rfl (Y_mat (s := F.2.2.2 (i + 2)) hF a5 a6 a c d (h17.trans f) q2 q3 hT (fun w => ?_) (fun w => absurd w g))
    have hval : (-1 : Int32) = -1 := rfl
    dsimp only
    repeat (refine X_n rfl rfl rfl ?_)
    refine X_cd rfl rfl rfl rfl Y_thrown ?_
    repeat (refine X_n rfl rfl rfl ?_)
    refine X_bt rfl rfl rfl hthr ?_
    repeat (refine X_n rfl rfl rfl ?_)
    refine X_bf rfl rfl rfl (fun h => h rfl) ?_
    repeat (refine X_n rfl rfl rfl ?_)
    refine X_ln rfl rfl rfl rfl rfl (show 0 < 1 by omega) (show 1 < 2 ^ 31 by omega) ?_
    repeat (refine X_n rfl rfl rfl ?_)
    refine X_bt rfl rfl rfl (lg_eq hval) ?_
    refine X_n rfl rfl rfl ?_
    exact K P _ _ _ _ _ (IV_no hI) (hG.s ht)
  · obtain ⟨-, q2, q3⟩ := (IV_run hF hI f).1 p a
    dsimp only
    repeat (refine X_n rfl rfl rfl ?_)
    refine X_li (k := i + 1) rfl rfl (nI_add i 1) (show i + 1 < F.2.2.1 by omega) (show F.2.2.1 < 2 ^ 31 by omega) ?_
    repeat (refine X_n rfl rfl rfl ?_)
    refine X_li (k := i + 2) rfl rfl (nI_add i 2) (show i + 2 < F.2.2.1 by omega) (show F.2.2.1 < 2 ^ 31 by omega) ?_
    repeat (refine X_n rfl rfl rfl ?_)
    refine X_li (k := i + 3) rfl rfl (nI_add i 3) (show i + 3 < F.2.2.1 by omega) (show F.2.2.1 < 2 ^ 31 by omega) ?_
    rw [b, e]
    have hthr : st C 169 0 0 169 0 = 0 := st_s
    refine X_k rfl rfl rfl rfl (Y_mat (s := F.2.2.2 (i + 2)) hF a5 a6 a c d (h17.trans f) q2 q3 hT (fun w => absurd g w) (fun w => ?_))
    have hval : (if j = 0 then nI (pl C (fin F C P).2 p (F.2.2.2 (i + 2)) % F.1) else nI (pl C (fin F C P).2 p (F.2.2.2 (i + 2)) / F.1)) = (if j = 0 then nI (pl C (fin F C P).2 p (F.2.2.2 (i + 2)) % F.1) else nI (pl C (fin F C P).2 p (F.2.2.2 (i + 2)) / F.1)) := rfl
    dsimp only
    repeat (refine X_n rfl rfl rfl ?_)
    refine X_cd rfl rfl rfl rfl Y_thrown ?_
    repeat (refine X_n rfl rfl rfl ?_)
    refine X_bt rfl rfl rfl hthr ?_
    repeat (refine X_n rfl rfl rfl ?_)
    refine X_bf rfl rfl rfl (fun h => h rfl) ?_
    repeat (refine X_n rfl rfl rfl ?_)
    refine X_ln rfl rfl rfl rfl rfl (show 0 < 1 by omega) (show 1 < 2 ^ 31 by omega) ?_
    repeat (refine X_n rfl rfl rfl ?_)
    refine X_bt rfl rfl rfl (lg_eq hval) ?_
    refine X_n rfl rfl rfl ?_
    exact K P _ _ _ _ _ (IV_no hI) (hG.s ht)
theorem law_run (hF : okF F) (hI : IV F P C) (hG : okX G t) (ht : t < 1000) (K : nxtL F t i Q) : X y_Law_law 708 [some (.ref 1000000002), some (.ref 0), some (.ref 169), some (.ref 193), some (.int (nI i)), x5, x6] [] (hp F C J G) Q := by
  obtain ⟨⟨a1, a2, a3, a4, a5, a6, a7⟩, bL, hb, h17, hres⟩ := id hI
  have hP60 := a5.1
  obtain ⟨-, -, X8, hX8, h11, -, -⟩ := id a1
  -- the reference's run behind the class's
  have go : ∀ D : Ct, cfg C D → (∀ k, 163 < k → D k = C k) → xyC F D → okN F D → D 0 5 = 1 → resC F P D → X y_Law_law 712 [some (.ref 1000000002), some (.ref 0), some (.ref 169), some (.ref 193), some (.int (nI i)), x5, x6] [.int (nI (fin F C P).1)] (hp F D J G) Q := by
    intro D cD fD xD nD r1 rC
    have b1 := okS_cfg cD a1
    have b2 := okG_cfg cD a2
    have b5 := okP_cfg cD a5
    have b6 : mcf F D P := mcf_same cD (fun k _ _ => fD k (by omega)) (by rw [fD 169 (by omega)]) (by rw [fD 169 (by omega)]) a6
    have b7 : okMS F D := by unfold okMS opM; rw [fD 170 (by omega), fD 171 (by omega)]; exact a7
    have bL' : okL F D := okL_eq bL (by rw [fD 169 (by omega)]) (fD 179 (by omega)) (fD 170 (by omega)) (fD 171 (by omega))
    repeat (refine X_n rfl rfl rfl ?_)
    refine X_k rfl rfl rfl rfl (Y_mrun hF b1 b2 b5 b6 b7 bL' (fun E s e0 e14 e17 hr rM => ?_))
    have cE : cfg D E := fun k hk => s.1 k (by omega) (by omega)
    dsimp only
    refine X_bt rfl rfl rfl (by rw [fin_cfg cD]; exact rfl) ?_
    refine K P _ _ _ _ _ ⟨⟨okS_cfg cE b1, okG_cfg cE b2, ?_, okN_eq nD cE (fun k _ _ => s.1 k (by omega) (by omega)), okP_cfg cE b5, mcf_same cE (fun k _ _ => s.1 k (by omega) (by omega)) (s.2 7 (by omega) (by omega) (by omega) (by omega)) (s.2 9 (by omega) (by omega) (by omega) (by omega)) b6, ?_⟩, Or.inr ⟨e14, hr⟩, Or.inr ?_, ?_, fun _ => ⟨rC.same cE (fun k _ _ => s.1 k (by omega) (by omega)) hP60, rM⟩⟩ (hG.s ht)
    · unfold xyC; rw [s.1 7 (by omega) (by omega), s.1 8 (by omega) (by omega)]; exact xD
    · unfold okMS opM; rw [s.1 170 (by omega) (by omega), s.1 171 (by omega) (by omega)]; exact b7
    · rw [s.1 0 (by omega) (by omega)]; exact r1
    · rw [s.1 0 (by omega) (by omega), r1]; exact e17
  repeat (refine X_n rfl rfl rfl ?_)
  refine X_k rfl rfl rfl rfl (Y_run hF a1 a4 hX8 h11 a5 hb (fun e => ?_) (fun e D s r1 nD rC => ?_))
  · dsimp only
    have hr := (hres e).1
    refine X_top (w := nI (fin F C P).1) hr.2.2 ?_
    exact go C (fun _ _ => rfl) (fun _ _ => rfl) a3 a4 e hr
  · dsimp only
    refine go D s.cfg (fun k hk => s k (by omega) (by omega) (by omega)) ?_ nD r1 rC
    unfold xyC; rw [s 7 (by omega) (by omega) (by omega), s 8 (by omega) (by omega) (by omega)]; exact a3
end
