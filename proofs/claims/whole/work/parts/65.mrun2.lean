/-! the reference's run: the whole -/
/-- what the reference keeps of a run -/
def resM (F : Fx) (P : Nat) (C : Ct) : Prop := (∀ p, p < P → C 181 p = (fin F C P).2 0 p ∧ C 182 p = (fin F C P).2 1 p ∧ C 183 p = (fin F C P).2 2 p ∧ C 184 p = (fin F C P).2 3 p ∧ ∀ k, k < ((fin F C P).2 3 p).toNatClampNeg → C 185 (600 * p + k) = (fin F C P).2 7 (600 * p + k) ∧ C 186 (600 * p + k) = nI (cm F ((fin F C P).2 8 (600 * p + k)).toNatClampNeg)) ∧ (∀ c, c < F.1 * F.2.1 → C 189 (cm F c) = (fin F C P).2 6 c) ∧ C 169 18 = nI (fin F C P).1
section
variable {F : Fx} {C0 A C C' : Ct} {P t p b k c : Nat} {N : Nat → Int32} {u18 : Int32} {J : Nat → Int64} {G : Ex} {Q : mE → mH → Prop}
theorem resM.same (h : resM F P C) (h1 : cfg C C') (h2 : ∀ k, 181 ≤ k → k ≤ 189 → C' k = C k) (h3 : C' 169 18 = C 169 18) : resM F P C' := by
  unfold resM at *
  rw [fin_cfg h1, h2 181 (by omega) (by omega), h2 182 (by omega) (by omega), h2 183 (by omega) (by omega), h2 184 (by omega) (by omega), h2 185 (by omega) (by omega), h2 186 (by omega) (by omega), h2 189 (by omega) (by omega), h3]
  exact h
theorem mnu_of (hF : okF F) (hS : okS F C) (hg : okG F C) (hr : rS F C) (h : ∀ wh, wh ≤ 8 → rowOkM F C wh (nuM C wh)) : mnu F C := by
  intro r hr9 c hc
  exact (num_eq hF hS hg hr (whN_gw hr9) (nuC_ok hF hS hr9) (h _ (whN_le hr9)) hc).symm
theorem repM.l18 (h : repM F C0 P u18 N A C) : C 169 18 = u18 := (h.1.2 18).trans (if_pos rfl)
/-- the run's own loop -/
theorem Y_mrun3 (hF : okF F) (hS : okS F C0) (hg : okG F C0) (hP : okP F C0 P) (hmc : mcf F C0 P) (hm : mnu F C0)
    (kk : ∀ C' N', repM F C0 P (nI (fin F C0 P).1) N' (fin F C0 P).2 C' → Q (.inl (some (.int (nI (fin F C0 P).1)))) (hp F (st C' 169 17 1) J G)) :
    ∀ d t A C N x1, t + d = 3600 → repM F C0 P (nI t) N A C → inv F C0 P t A → runF F C0 P d t A = fin F C0 P → X y_Model_run 111 [some (.ref 169), x1] [] (hp F C J G) Q := by
  have hn := hF.n
  have hP60 := hP.1
  have done : ∀ t A C N x1, repM F C0 P (nI t) N A C → fin F C0 P = (t, A) → X y_Model_run 149 [some (.ref 169), x1] [] (hp F C J G) Q := by
    intro t A C N x1 hr he
    rw [he] at kk
    repeat (refine X_n rfl rfl rfl ?_)
    refine X_s rfl rfl ?_
    refine X_h (hp_f169_17 rfl) ?_
    repeat (refine X_n rfl rfl rfl ?_)
    refine X_top (w := nI t) hr.l18 ?_
    exact X_r rfl rfl rfl rfl (kk C N hr)
  intro d
  induction d with
  | zero =>
    intro t A C N x1 hd hr hi hf
    have : t = 3600 := by omega
    subst this
    repeat (refine X_n rfl rfl rfl ?_)
    refine X_bt rfl rfl rfl (show nI 3600 ≤ C 169 18 by rw [hr.l18]; exact Int32.le_refl _) ?_
    exact done 3600 A C N _ hr hf.symm
  | succ d ih =>
    intro t A C N x1 hd hr hi hf
    repeat (refine X_n rfl rfl rfl ?_)
    refine X_bf rfl rfl rfl (show ¬ nI 3600 ≤ C 169 18 by rw [hr.l18]; exact nI_ge (by omega) (by omega)) ?_
    repeat (refine X_n rfl rfl rfl ?_)
    refine X_cd rfl rfl rfl rfl (Y_anyWaits hP hF hmc hr) ?_
    refine X_z rfl (fun q => ?_) (fun q => ?_)
    · have hw : ¬ waits P A := fun h => q (cntW_pos.mpr h)
      rw [runF, m_if_f hw] at hf
      exact done t A C N _ hr hf.symm
    · have hw : waits P A := cntW_pos.mp q
      rw [runF, m_if_t hw] at hf
      have e1 : C 169 18 + Int32.ofInt 1 = nI (t + 1) := by rw [hr.l18, nI_1']
      repeat (refine X_n rfl rfl rfl ?_)
      refine X_s rfl rfl ?_
      refine X_h (hp_f169_18 rfl) ?_
      rw [e1]
      repeat (refine X_n rfl rfl rfl ?_)
      refine X_top (w := nI (t + 1)) st_s ?_
      refine X_k rfl rfl rfl rfl (Y_second hF hS hg hP hmc hm (hr.lst (v := nI (t + 1))) (hi.mono (Nat.le_succ t)) (by omega) (fun C' N' hr' => ?_))
      dsimp only
      iterate 1 (refine X_n rfl rfl rfl ?_)
      exact ih (t + 1) _ C' N' _ (by omega) hr' (sec_inv hF hS hP hi (by omega)) hf
/-- the persons are put in their cells -/
def repI (F : Fx) (C0 : Ct) (i : Nat) (C : Ct) : Prop :=
  ((∀ k, k < 181 ∨ 191 < k → k ≠ 169 → C k = C0 k) ∧ ∀ j, C 169 j = C0 169 j) ∧ (∀ p, p < i → repQ F (bgn C0) C p) ∧
  ∀ c, c < F.1 * F.2.1 → C 189 (cm F c) = 0 ∧ ((∃ p, p < i ∧ C0 28 c = nI p ∧ C 188 (cm F c) = nI p) ∨ ((∀ p, p < i → ¬ C0 28 c = nI p) ∧ C 188 (cm F c) = -1))
theorem repI_M (hF : okF F) (hP : okP F C0 P) (h : repI F C0 P C) (v : Int32) : repM F C0 P v (fun c => C 190 (cm F c)) (bgn C0) (st C 169 18 v) := by
  obtain ⟨⟨h1, h1'⟩, h2, h3⟩ := h
  refine ⟨⟨fun k hk h169 => ?_, fun j => ?_⟩, fun q hq => ?_, fun d hd => ?_⟩
  · rw [st_f h169]; exact h1 k hk h169
  · by_cases e : j = 18
    · subst e; rw [st_s, if_pos rfl]
    · rw [st_i e, if_neg e]; exact h1' j
  · have := h2 q hq
    unfold repQ at *
    simpa [st_r] using this
  · obtain ⟨g1, g2⟩ := h3 d hd
    have e5 : bgn C0 5 d = C0 28 d := by simp [bgn]
    have e6 : bgn C0 6 d = 0 := by simp [bgn]
    rw [st_k (by omega), st_k (by omega), st_k (by omega), e5, e6]
    refine ⟨?_, g1, rfl⟩
    rcases g2 with ⟨p, -, w1, w2⟩ | ⟨w1, w2⟩
    · rw [w1, w2]
    · rcases hP.2.2.2 d hd with g | ⟨p, g1, g2, -⟩
      · rw [g, w2]
      · exact absurd g2 (w1 p g1)
theorem Y_mrun2 (hF : okF F) (hS : okS F C0) (hg : okG F C0) (hP : okP F C0 P) (hmc : mcf F C0 P) (hm : mnu F C0)
    (kk : ∀ C' N', repM F C0 P (nI (fin F C0 P).1) N' (fin F C0 P).2 C' → Q (.inl (some (.int (nI (fin F C0 P).1)))) (hp F (st C' 169 17 1) J G)) :
    ∀ d i C, i + d = P → repI F C0 i C → X y_Model_run 40 [some (.ref 169), some (.int (nI i))] [] (hp F C J G) Q := by
  have hn := hF.n
  have hP60 := hP.1
  have e9 : ∀ C i, repI F C0 i C → C 169 9 = nI P := fun C i h => (h.1.2 9).trans hmc.2.1
  intro d
  induction d with
  | zero =>
    intro i C hd hr
    have : i = P := by omega
    subst this
    repeat (refine X_n rfl rfl rfl ?_)
    refine X_bt rfl rfl rfl (show C 169 9 ≤ nI i by rw [e9 C i hr]; exact Int32.le_refl _) ?_
    repeat (refine X_n rfl rfl rfl ?_)
    refine X_s rfl rfl ?_
    refine X_h (hp_f169_18 rfl) ?_
    exact Y_mrun3 hF hS hg hP hmc hm kk 3600 0 (bgn C0) _ _ _ (by omega) (repI_M hF hP hr _) (bgn_inv hF hS hP) rfl
  | succ d ih =>
    intro i C hd hr
    have hiP : i < P := by omega
    have h60 : i < 60 := by omega
    have hs := s0_lt hF hP hiP
    have hc5 := (cm_in hF hs.1).2.2.2
    have e175 : C 175 i = nI (cm F (s0 C0 i)) := by rw [hr.1.1 175 (by omega) (by omega)]; exact (hmc.2.2.1 i hiP).1
    repeat (refine X_n rfl rfl rfl ?_)
    refine X_bf rfl rfl rfl (show ¬ C 169 9 ≤ nI i by rw [e9 C i hr]; exact nI_ge hiP (by omega)) ?_
    repeat (refine X_n rfl rfl rfl ?_)
    refine X_sa rfl rfl rfl hF (show i < 60 from h60) ?_
    repeat (refine X_n rfl rfl rfl ?_)
    refine X_sa rfl rfl rfl hF (show i < 60 from h60) ?_
    repeat (refine X_n rfl rfl rfl ?_)
    refine X_sa rfl rfl rfl hF (show i < 60 from h60) ?_
    repeat (refine X_n rfl rfl rfl ?_)
    refine X_sa rfl rfl rfl hF (show i < 60 from h60) ?_
    repeat (refine X_n rfl rfl rfl ?_)
    refine X_la rfl rfl rfl hF (show i < 60 from h60) ?_
    refine X_top (w := nI (cm F (s0 C0 i))) e175 ?_
    refine X_sa rfl rfl rfl hF (show i < 60 from h60) ?_
    repeat (refine X_n rfl rfl rfl ?_)
    refine X_la rfl rfl rfl hF (show i < 60 from h60) ?_
    refine X_top (w := nI (cm F (s0 C0 i))) e175 ?_
    repeat (refine X_n rfl rfl rfl ?_)
    refine X_sa rfl rfl rfl hF (show cm F (s0 C0 i) < 576 from hc5) ?_
    iterate 2 (refine X_n rfl rfl rfl ?_)
    rw [nI_1']
    obtain ⟨⟨h1, h1'⟩, h2, h3⟩ := hr
    refine ih (i + 1) _ (by omega) ⟨⟨fun k hk h169 => ?_, fun j => ?_⟩, fun q hq => ?_, fun c hc => ?_⟩
    · rw [st_f (by omega), st_f (by omega), st_f (by omega), st_f (by omega), st_f (by omega), st_f (by omega)]; exact h1 k hk h169
    · rw [st_f (by omega), st_f (by omega), st_f (by omega), st_f (by omega), st_f (by omega), st_f (by omega)]; exact h1' j
    · by_cases e : q = i
      · subst e
        unfold repQ
        have e4 : pA (bgn C0) q = s0 C0 q := by unfold pA s0; simp [bgn]
        have e3 : bgn C0 3 q = 0 := by simp [bgn]
        refine ⟨by simp [st_r, bgn], by simp [st_r, bgn], by simp [st_r, bgn], by simp [st_r, bgn], fun _ => by rw [e4]; simp [st_r], fun k hk => ?_⟩
        rw [e3] at hk
        exact absurd hk (by decide +revert)
      · have := h2 q (by omega)
        unfold repQ at *
        simpa [st_r, e] using this
    · obtain ⟨g1, g2⟩ := h3 c hc
      refine ⟨by simpa [st_r] using g1, ?_⟩
      have e1 := cm_eqP hF hc hs.1
      obtain ⟨⟨c', c1, c2, c3, -⟩, -⟩ := hP.2.2.1 i hiP
      have ecc : c' = s0 C0 i := (nI_eq (by omega) (by omega)).mp (c2.symm.trans hs.2.1)
      rw [ecc] at c3
      by_cases e : c = s0 C0 i
      · subst e
        exact Or.inl ⟨i, by omega, c3, by simp [st_r]⟩
      · have hv : ∀ v, (st (st (st (st (st (st C 181 i (Int32.ofInt 0)) 182 i (Int32.ofInt (-1))) 183 i (Int32.ofInt (-1))) 184 i (Int32.ofInt 0)) 187 i (nI (cm F (s0 C0 i)))) 188 (cm F (s0 C0 i)) v 188 (cm F c)) = C 188 (cm F c) := fun v => by simp [st_r, e1, e]
        have hne : ¬ C0 28 c = nI i := fun w => by
          rcases hP.2.2.2 c hc with g | ⟨p, g1, g2, g3⟩
          · rw [g] at w; exact absurd w.symm (nI_nm1 (by omega))
          · have : p = i := (nI_eq (by omega) (by omega)).mp (g2.symm.trans w)
            subst this
            exact e ((nI_eq (by omega) (by omega)).mp (g3.symm.trans hs.2.1))
        rcases g2 with ⟨p, w0, w1, w2⟩ | ⟨w1, w2⟩
        · exact Or.inl ⟨p, by omega, w1, (hv _).trans w2⟩
        · refine Or.inr ⟨fun p hp => ?_, (hv _).trans w2⟩
          by_cases ep : p = i
          · subst ep; exact hne
          · exact w1 p (by omega)
theorem Y_mrun1 (hF : okF F) (kk : X y_Model_run 38 [some (.ref 169), some (.int (nI 576))] [] (hp F (stA (stA C 188 (flt (C 188) (-1) 576)) 189 (flt (C 189) 0 576)) J G) Q) :
    ∀ d i, i + d = 576 → X y_Model_run 11 [some (.ref 169), some (.int (nI i))] [] (hp F (stA (stA C 188 (flt (C 188) (-1) i)) 189 (flt (C 189) 0 i)) J G) Q := by
  intro d
  induction d with
  | zero =>
    intro i hd
    have : i = 576 := by omega
    subst this
    repeat (refine X_n rfl rfl rfl ?_)
    refine X_bt rfl rfl rfl (Int32.le_refl _) ?_
    exact kk
  | succ d ih =>
    intro i hd
    repeat (refine X_n rfl rfl rfl ?_)
    refine X_bf rfl rfl rfl (show ¬ nI 576 ≤ nI i from nI_ge (by omega) (by omega)) ?_
    repeat (refine X_n rfl rfl rfl ?_)
    refine X_sa rfl rfl rfl hF (show i < 576 by omega) ?_
    repeat (refine X_n rfl rfl rfl ?_)
    refine X_sa rfl rfl rfl hF (show i < 576 by omega) ?_
    have e : st (st (stA (stA C 188 (flt (C 188) (-1) i)) 189 (flt (C 189) 0 i)) 188 i (Int32.ofInt (-1))) 189 i (Int32.ofInt 0) = stA (stA C 188 (flt (C 188) (-1) (i + 1))) 189 (flt (C 189) 0 (i + 1)) := by
      rw [← flt_s (C 188), ← flt_s (C 189)]
      funext k j
      simp only [st_r, stA_r, upd]
      by_cases e1 : k = 189
      · subst e1; simp
      · by_cases e2 : k = 188
        · subst e2; simp
        · simp [e1, e2]
    rw [e]
    iterate 2 (refine X_n rfl rfl rfl ?_)
    rw [nI_1']
    exact ih (i + 1) (by omega)
/-- what the reference's run leaves as it was -/
def sameS (C C' : Ct) : Prop := (∀ k, k < 179 ∨ 191 < k → k ≠ 169 → C' k = C k) ∧ ∀ j, j ≠ 0 → j ≠ 14 → j ≠ 17 → j ≠ 18 → C' 169 j = C 169 j
theorem mcf_same (h1 : cfg C C') (h2 : ∀ k, 170 ≤ k → k ≤ 178 → C' k = C k) (h3 : C' 169 7 = C 169 7) (h4 : C' 169 9 = C 169 9) (h : mcf F C P) : mcf F C' P := by
  unfold mcf rS s0 hasR at *
  rw [h3, h4, h2 170 (by omega) (by omega), h2 171 (by omega) (by omega), h2 172 (by omega) (by omega), h2 173 (by omega) (by omega), h2 175 (by omega) (by omega), h2 176 (by omega) (by omega), h2 177 (by omega) (by omega), h2 178 (by omega) (by omega), h1 1 (by omega), h1 2 (by omega), h1 3 (by omega), h1 4 (by omega), h1 5 (by omega), h1 24 (by omega), h1 25 (by omega), h1 26 (by omega), h1 27 (by omega)]
  exact h
theorem okS_cfg (h : cfg C C') (hs : okS F C) : okS F C' := by
  unfold okS okB
  rw [h 9 (by omega), h 1 (by omega), h 6 (by omega), h 5 (by omega), h 2 (by omega)]
  exact hs
theorem okG_cfg (h : cfg C C') (hg : okG F C) : okG F C' := by
  unfold okG
  rw [h 9 (by omega)]
  exact hg
theorem rowOkM_eq {wh : Nat} {row : Nat → Int32} (h : C' 170 = C 170) (h2 : C' 171 = C 171) (hr : rowOkM F C wh row) : rowOkM F C' wh row := by
  unfold rowOkM at *
  have e1 : nbM F C' = nbM F C := nbM_same h
  have e2 : glM C' = glM C := by unfold glM; rw [h2]
  have e3 : opM F C' = opM F C := by unfold opM; rw [h]
  rw [e1, e2, e3]
  exact hr
theorem Y_mrun (hF : okF F) (hS : okS F C) (hg : okG F C) (hP : okP F C P) (hmc : mcf F C P) (hMS : okMS F C) (hL : okL F C)
    (kk : ∀ C', sameS C C' → C' 169 0 = 0 → C' 169 14 = 1 → C' 169 17 = 1 → (∀ wh, wh ≤ 8 → rowOkM F C' wh (nuM C' wh)) → resM F P C' → Q (.inl (some (.int (nI (fin F C P).1)))) (hp F C' J G)) :
    Y y_Model_run [.ref 169] (hp F C J G) Q := by
  have hP60 := hP.1
  unfold Y
  repeat (refine X_n rfl rfl rfl ?_)
  refine X_s rfl rfl ?_
  refine X_h (hp_f169_0 rfl) ?_
  repeat (refine X_n rfl rfl rfl ?_)
  have s0' : ∀ k, k ≠ 169 → st C 169 0 0 k = C k := fun k hk => st_f hk
  have hMS' : okMS F (st C 169 0 0) := by
    unfold okMS opM at *
    rw [s0' 170 (by omega), s0' 171 (by omega)]; exact hMS
  have hL' : okL F (st C 169 0 0) := by
    unfold okL at *
    rw [st_i (by omega)]
    rcases hL with g | ⟨g1, g2⟩
    · exact Or.inl g
    · refine Or.inr ⟨g1, fun wh hw => ?_⟩
      have : nuM (st C 169 0 0) wh = nuM C wh := by unfold nuM; rw [s0' 179 (by omega)]
      rw [this]
      exact rowOkM_eq (s0' 170 (by omega)) (s0' 171 (by omega)) (g2 wh hw)
  refine X_c rfl rfl rfl rfl (Y_learn hF hMS' hL') ?_ ?_
  · rintro v h' ⟨C1, ev, rfl, sL, e14, hrows⟩
    cases ev
    have c1 : cfg C C1 := fun k hk => by rw [sL.1 k (by omega) (by omega) (by omega), st_f (by omega)]
    have hS1 := okS_cfg c1 hS
    have hg1 := okG_cfg c1 hg
    have hP1 := okP_cfg c1 hP
    have hmc1 : mcf F C1 P := mcf_same c1 (fun k a b => by rw [sL.1 k (by omega) (by omega) (by omega), st_f (by omega)]) (by rw [sL.2 7 (by omega), st_i (by omega)]) (by rw [sL.2 9 (by omega), st_i (by omega)]) hmc
    have hm1 := mnu_of hF hS1 hg1 hmc1.1 hrows
    have ef : fin F C1 P = fin F C P := fin_cfg c1
    have hgo := Y_mrun1 (F := F) (C := C1) (J := J) (G := G) (Q := Q) hF ?_ 576 0 (by omega)
    · rw [flt_0, flt_0, stA_self, stA_self] at hgo
      iterate 2 (refine X_n rfl rfl rfl ?_)
      exact hgo
    · iterate 2 (refine X_n rfl rfl rfl ?_)
      refine Y_mrun2 hF hS1 hg1 hP1 hmc1 hm1 (fun C' N' hr' => ?_) P 0 _ (by omega) ⟨⟨fun k hk h169 => ?_, fun j => ?_⟩, fun p hp => by omega, fun c hc => ?_⟩
      · rw [ef] at hr' ⊢
        have fr : ∀ k, k < 181 ∨ 191 < k → k ≠ 169 → st C' 169 17 1 k = C1 k := fun k a b => by rw [st_f b]; exact hr'.1.1 k a b
        have c2 : cfg C (st C' 169 17 1) := fun k hk => by rw [fr k (by omega) (by omega)]; exact c1 k hk
        have f169 : ∀ j, j ≠ 17 → j ≠ 18 → st C' 169 17 1 169 j = C1 169 j := fun j a b => by rw [st_i a, hr'.1.2 j, if_neg b]
        refine kk _ ⟨fun k a b => ?_, fun j a b c d => ?_⟩ ?_ ?_ st_s (fun wh hw => ?_) ?_
        · rw [fr k (by omega) b, sL.1 k (by omega) (by omega) b, st_f b]
        · rw [f169 j c d, sL.2 j b, st_i a]
        · rw [f169 0 (by omega) (by omega), sL.2 0 (by omega), st_s]; rfl
        · rw [f169 14 (by omega) (by omega)]; exact e14
        · have : nuM (st C' 169 17 1) wh = nuM C1 wh := by unfold nuM; rw [fr 179 (by omega) (by omega)]
          rw [this]
          exact rowOkM_eq (fr 170 (by omega) (by omega)) (fr 171 (by omega) (by omega)) (hrows wh hw)
        · unfold resM
          rw [fin_cfg c2]
          refine ⟨fun p hp => ?_, fun c hc => ?_, ?_⟩
          · obtain ⟨g0, g1, g2, g3, -, g5⟩ := hr'.2.1 p hp
            rw [st_f (by omega), st_f (by omega), st_f (by omega), st_f (by omega), st_f (by omega), st_f (by omega)]
            exact ⟨g0, g1, g2, g3, g5⟩
          · rw [st_f (by omega)]; exact (hr'.2.2 c hc).2.1
          · rw [st_i (by omega)]; exact hr'.l18
      · rw [stA_f (by omega), stA_f (by omega)]
      · rw [stA_f (by omega), stA_f (by omega)]
      · have hc5 := (cm_in hF hc).2.2.2
        refine ⟨?_, Or.inr ⟨fun p hp => by omega, ?_⟩⟩
        · rw [stA_k]
          show (if cm F c < 576 then (0 : Int32) else _) = 0
          rw [if_pos hc5]
        · rw [stA_f (by omega), stA_k]
          show (if cm F c < 576 then (-1 : Int32) else _) = -1
          rw [if_pos hc5]
  · rintro v h' ⟨C1, ev, -⟩
    cases ev
end
