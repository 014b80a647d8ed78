/-! the class's run: how it begins -/
section
variable {F : Fx} {C0 A C : Ct} {P t p b k c : Nat} {N : Nat → Int32} {J : Nat → Int64} {G : Ex} {Q : mE → mH → Prop}
theorem hRow_eq (hP : okP F C0 P) (hpP : p < P) : C0 27 p + 1 = nI (hRow C0 p) := by
  unfold hRow
  rcases (hP.2.2.1 p hpP).2.2.2 with e | ⟨x, e, h8, -⟩
  · rw [e]; decide
  · rw [e, nI_1, nI_clamp (by omega)]
theorem Y_goalOf (hF : okF F) (hP : okP F C0 P) (hR : rwC F C0 P) (hpP : p < P) (hC : ∀ k, k < 29 → C k = C0 k) (kk : ∀ g, g + 1 = nI (gRow F C0 p) → Q (.inl (some (.int g))) (hp F C J G)) : Y y_Flight_goalOf [.ref 29, .int (nI p)] (hp F C J G) Q := by
  have hn := hF.n
  have hP60 := hP.1
  have hs := s0_lt hF hP hpP
  have hr9 := hRow_lt hP hpP
  have e27 : C 27 p = C0 27 p := by rw [hC 27 (by omega)]
  have e24 : C 24 p = nI (s0 C0 p) := by rw [hC 24 (by omega)]; exact hs.2.1
  have eR : C (12 + hRow C0 p) (s0 C0 p) = nuC F C0 (hRow C0 p) (s0 C0 p) := by rw [hC _ (by omega)]; exact (hR p hpP _ hs.1).2
  unfold Y
  repeat (refine X_n rfl rfl rfl ?_)
  refine X_la rfl rfl rfl hF (show p < 60 by omega) ?_
  rw [e27]
  repeat (refine X_n rfl rfl rfl ?_)
  refine X_cd rfl rfl rfl rfl (Y_foundRowTo (hRow_eq hP hpP) hr9) ?_
  repeat (refine X_n rfl rfl rfl ?_)
  refine X_la rfl rfl rfl hF (show p < 60 by omega) ?_
  refine X_li rfl (hp_at (kd_row _ hr9).1 (ln_0 (kd_row _ hr9).2)) e24 hs.1 (by omega) ?_
  rw [eR]
  unfold gRow at kk
  repeat (refine X_n rfl rfl rfl ?_)
  refine X_b rfl rfl rfl (fun q => ?_) (fun q => ?_)
  · have q : ¬ nuC F C0 (hRow C0 p) (s0 C0 p) = -1 := q
    repeat (refine X_n rfl rfl rfl ?_)
    exact X_r rfl rfl rfl rfl (kk (C0 27 p) (by rw [m_if_f q]; exact hRow_eq hP hpP))
  · have q : nuC F C0 (hRow C0 p) (s0 C0 p) = -1 := Classical.not_not.mp q
    repeat (refine X_n rfl rfl rfl ?_)
    exact X_r rfl rfl rfl rfl (kk (-1) (by rw [m_if_t q]; decide))
def repB (F : Fx) (C0 : Ct) (P i : Nat) (C : Ct) : Prop :=
  (∀ k, k < 29 ∨ 163 < k → C k = C0 k) ∧ (∀ p, p < i → repP F C0 (bgn C0) C p) ∧ (∀ c, c < F.1 * F.2.1 → C 160 c = C0 28 c ∧ C 34 c = 0 ∧ C 162 c = 0) ∧ C 29 18 = nI P
theorem cntW_bgn : ∀ i, cntW (bgn C0) i = i := by
  intro i
  induction i with
  | zero => rfl
  | succ i ih => rw [cntW, ih, if_pos (by simp [bgn])]
theorem repB_C (h : repB F C0 P P C) : repC F C0 P 0 (fun c => ciC C c (nI 0)) (bgn C0) C := by
  obtain ⟨h1, h2, h3, h4⟩ := h
  refine ⟨h1, h2, fun c hc => ?_, by rw [cntW_bgn]; exact h4, fun c hc => ⟨rfl, 0, Nat.le_refl 0, (h3 c hc).2.2⟩⟩
  obtain ⟨g1, g2, -⟩ := h3 c hc
  exact ⟨g1.trans (by simp [bgn]), g2.trans (by simp [bgn])⟩
theorem Y_begin_loop (hF : okF F) (hP : okP F C0 P) (hR : rwC F C0 P) (kk : ∀ C', repB F C0 P P C' → Q (.inl none) (hp F C' J G)) :
    ∀ d i C, i + d = P → repB F C0 P i C → X y_Flight_begin 50 [some (.ref 29), some (.int (nI i))] [] (hp F C J G) Q := by
  have hn := hF.n
  have hP60 := hP.1
  intro d
  induction d with
  | zero =>
    intro i C hd hr
    have : i = P := by omega
    subst this
    repeat (refine X_n rfl rfl rfl ?_)
    refine X_bt rfl rfl rfl (show C 23 5 ≤ nI i by rw [hr.1 23 (by omega), hP.2.1]; exact Int32.le_refl _) ?_
    exact X_r rfl rfl rfl rfl (kk C hr)
  | succ d ih =>
    intro i C hd hr
    have hiP : i < P := by omega
    have h60 : i < 60 := by omega
    repeat (refine X_n rfl rfl rfl ?_)
    refine X_bf rfl rfl rfl (show ¬ C 23 5 ≤ nI i by rw [hr.1 23 (by omega), hP.2.1]; exact nI_ge hiP (by omega)) ?_
    repeat (refine X_n rfl rfl rfl ?_)
    refine X_sa rfl rfl rfl hF (show i < 60 from h60) ?_
    repeat (refine X_n rfl rfl rfl ?_)
    refine X_sa rfl rfl rfl hF (show i < 60 from h60) ?_
    repeat (refine X_n rfl rfl rfl ?_)
    refine X_sa rfl rfl rfl hF (show i < 60 from h60) ?_
    repeat (refine X_n rfl rfl rfl ?_)
    refine X_sa rfl rfl rfl hF (show i < 60 from h60) ?_
    repeat (refine X_n rfl rfl rfl ?_)
    refine X_la rfl rfl rfl hF (show i < 60 from h60) ?_
    refine X_sa rfl rfl rfl hF (show i < 60 from h60) ?_
    repeat (refine X_n rfl rfl rfl ?_)
    refine X_k rfl rfl rfl rfl (Y_goalOf hF hP hR hiP (fun k hk => ?_) (fun g hg => ?_))
    · rw [st_f (by omega), st_f (by omega), st_f (by omega), st_f (by omega), st_f (by omega)]
      exact hr.1 k (Or.inl hk)
    · dsimp only
      refine X_sa rfl rfl rfl hF (show i < 60 from h60) ?_
      repeat (refine X_n rfl rfl rfl ?_)
      refine X_la rfl rfl rfl hF (show i < 60 from h60) ?_
      repeat (refine X_n rfl rfl rfl ?_)
      refine X_la rfl rfl rfl hF (show i < 60 from h60) ?_
      repeat (refine X_n rfl rfl rfl ?_)
      refine X_sa rfl rfl rfl hF (show i < 60 from h60) ?_
      iterate 2 (refine X_n rfl rfl rfl ?_)
      rw [nI_1']
      refine ih (i + 1) _ (by omega) ⟨fun k hk => ?_, fun q hq => ?_, fun c hc => ?_, ?_⟩
      · rw [st_f (by omega), st_f (by omega), st_f (by omega), st_f (by omega), st_f (by omega), st_f (by omega), st_f (by omega)]
        exact hr.1 k hk
      · have e39 := ne39 (q := q) (by omega)
        have e100 := ne100 (q := q) (by omega)
        have e24 : C 24 i = C0 24 i := by rw [hr.1 24 (by omega)]
        have e25 : C 25 i = C0 25 i := by rw [hr.1 25 (by omega)]
        have e26 : C 26 i = C0 26 i := by rw [hr.1 26 (by omega)]
        by_cases e : q = i
        · subst e
          unfold repP
          refine ⟨by simp [st_r, bgn], by simp [st_r, bgn], by simp [st_r, bgn], by simp [st_r, bgn], by simp [st_r, bgn, e24], by simp [st_r, bgn, e25, e26], by simpa [st_r] using hg, fun k hk => ?_⟩
          have : bgn C0 3 q = 0 := by simp [bgn]
          rw [this] at hk
          exact absurd hk (by decide +revert)
        · have := hr.2.1 q (by omega)
          unfold repP at *
          simpa [st_r, e, e39, e100] using this
      · simpa [st_r] using hr.2.2.1 c hc
      · simpa [st_r] using hr.2.2.2
theorem Y_begin (hF : okF F) (hP : okP F C0 P) (hR : rwC F C0 P) (kk : ∀ C', repB F C0 P P C' → Q (.inl none) (hp F C' J G)) : Y y_Flight_begin [.ref 29] (hp F C0 J G) Q := by
  have hn := hF.n
  have hP60 := hP.1
  unfold Y
  repeat (refine X_n rfl rfl rfl ?_)
  refine X_m rfl rfl rfl rfl rfl (m_if_t ⟨⟨⟨?_, ?_⟩, ?_, ?_⟩, ⟨?_, ?_⟩, ?_, ?_, ?_⟩) ?_
  · decide
  · decide
  · exact nI_pos (show F.1 * F.2.1 < 2 ^ 31 by omega)
  · show 28 < m_sB; decide
  · show (Int32.ofInt 0).toNatClampNeg + (nI (F.1 * F.2.1)).toNatClampNeg ≤ F.1 * F.2.1
    rw [nI_clamp (by omega), show (Int32.ofInt 0).toNatClampNeg = 0 from by decide]; omega
  · show (Int32.ofInt 0).toNatClampNeg + (nI (F.1 * F.2.1)).toNatClampNeg ≤ F.1 * F.2.1
    rw [nI_clamp (by omega), show (Int32.ofInt 0).toNatClampNeg = 0 from by decide]; omega
  · show 160 < m_sB; decide
  · decide
  · decide
  refine X_h (hp_stA (k := 160) rfl rfl) ?_
  repeat (refine X_n rfl rfl rfl ?_)
  refine X_cd rfl rfl rfl rfl (Y_fillC (k := 34) rfl rfl (by show F.1 * F.2.1 < _; omega)) ?_
  repeat (refine X_n rfl rfl rfl ?_)
  refine X_cd rfl rfl rfl rfl (Y_fillC (k := 162) rfl rfl (by show F.1 * F.2.1 < _; omega)) ?_
  repeat (refine X_n rfl rfl rfl ?_)
  refine X_s rfl rfl ?_
  refine X_h (hp_f29_18 rfl) ?_
  iterate 2 (refine X_n rfl rfl rfl ?_)
  refine Y_begin_loop hF hP hR kk P 0 _ (by omega) ⟨fun k hk => ?_, fun p hp => by omega, fun c hc => ?_, ?_⟩
  · rw [st_f (by omega), stA_f (by omega), stA_f (by omega), stA_f (by omega)]
  · have e0 : (Int32.ofInt 0).toNatClampNeg = 0 := by decide
    have en : (nI (F.1 * F.2.1)).toNatClampNeg = F.1 * F.2.1 := nI_clamp (by omega)
    refine ⟨?_, ?_, ?_⟩
    · rw [st_k (by omega), stA_f (by omega), stA_f (by omega), stA_k]
      show (if (Int32.ofInt 0).toNatClampNeg ≤ c ∧ c < (Int32.ofInt 0).toNatClampNeg + (nI (F.1 * F.2.1)).toNatClampNeg then C0 28 ((Int32.ofInt 0).toNatClampNeg + (c - (Int32.ofInt 0).toNatClampNeg)) else C0 160 c) = C0 28 c
      rw [e0, en, if_pos (by omega)]
      congr 1
      omega
    · rw [st_k (by omega), stA_f (by omega), stA_k]
      show (if c < F.1 * F.2.1 then _ else _) = _
      rw [if_pos hc]; rfl
    · rw [st_k (by omega), stA_k]
      show (if c < F.1 * F.2.1 then _ else _) = _
      rw [if_pos hc]; rfl
  · rw [st_s]; exact hP.2.1
theorem repC.next {u : Nat} (h : repC F C0 P t N A C) (hu : t < u) (hu2 : u ≤ 3600) : repC F C0 P u (fun _ => 0) A C := by
  obtain ⟨h1, h2, h3, h4, h5⟩ := h
  refine ⟨h1, h2, h3, h4, fun c hc => ?_⟩
  obtain ⟨-, s, hs, e⟩ := h5 c hc
  refine ⟨?_, s, by omega, e⟩
  unfold ciC
  rw [e, if_neg (fun q => by have := (nI_eq (by omega) (by omega)).mp q; omega)]
theorem repC.last {v : Int32} (h : repC F C0 P t N A C) (hP : P ≤ 60) : repC F C0 P t N A (st C 29 8 v) := by
  obtain ⟨h1, h2, h3, h4, h5⟩ := h
  refine ⟨fun k hk => ?_, fun q hq => ?_, fun c hc => ?_, ?_, fun c hc => ?_⟩
  · rw [← h1 k hk, st_f (by omega)]
  · have := h2 q hq
    have e39 := ne39 (q := q) (by omega)
    have e100 := ne100 (q := q) (by omega)
    unfold repP at *
    simpa [st_r, e39, e100] using this
  · simpa [st_r] using h3 c hc
  · rw [st_i (by omega)]; exact h4
  · simpa [ciC, st_r] using h5 c hc
theorem max_of {a b : Nat} (h : a ≤ b) (hb : b < 2 ^ 31) : (if nI a < nI b then nI b else nI a) = nI b := by
  by_cases e : a = b
  · subst e; split <;> rfl
  · rw [if_pos (nI_lt (by omega) hb)]
theorem runF_end {d : Nat} (h : ¬ waits P A) : runF F C0 P d t A = (t, A) := by
  cases d with
  | zero => rfl
  | succ d => rw [runF, m_if_f h]
theorem Y_goAll_loop (hF : okF F) (hS : okS F C0) (hP : okP F C0 P) (hR : rwC F C0 P)
    (kk : ∀ C' N', repC F C0 P (fin F C0 P).1 N' (fin F C0 P).2 C' → C' 29 8 = nI (fin F C0 P).1 → inv F C0 P (fin F C0 P).1 (fin F C0 P).2 → (fin F C0 P).1 ≤ 3600 → Q (.inl none) (hp F C' J G)) :
    ∀ d t A C N v x3 x4, 3600 ≤ t + d → t ≤ 3600 → repC F C0 P t N A C → inv F C0 P t A → runF F C0 P (3600 - t) t A = fin F C0 P → (v = 0 ∨ v = 1) → (v = 0 → quiet F C0 P t A) → X y_Flight_goAll 8 [some (.ref 29), some (.int (nI t)), some (.int v), x3, x4] [] (hp F C J G) Q := by
  have hn := hF.n
  have hP60 := hP.1
  intro d
  have done : ∀ t A C N v x3 x4, t ≤ 3600 → repC F C0 P t N A C → inv F C0 P t A → runF F C0 P (3600 - t) t A = fin F C0 P → (¬ waits P A ∨ t = 3600) → X y_Flight_goAll 73 [some (.ref 29), some (.int (nI t)), some (.int v), x3, x4] [] (hp F C J G) Q := by
    intro t A C N v x3 x4 ht hr hi hf hw
    have e : fin F C0 P = (t, A) := by
      rw [← hf]
      rcases hw with h | h
      · exact runF_end h
      · rw [h]; rfl
    rw [e] at kk
    repeat (refine X_n rfl rfl rfl ?_)
    refine X_s rfl rfl ?_
    refine X_h (hp_f29_8 rfl) ?_
    exact X_r rfl rfl rfl rfl (kk _ N (hr.last hP60) st_s hi ht)
  have cw : ∀ (A C : Ct) (N : Nat → Int32) (t : Nat), repC F C0 P t N A C → (C 29 18 ≤ 0 → ¬ waits P A) ∧ (¬ C 29 18 ≤ 0 → waits P A) := by
    intro A C N t hr
    have := hr.2.2.2.1
    have hle := cntW_le' (A := A) (P := P)
    rw [this, ← cntW_pos]
    refine ⟨fun h => ?_, fun h => ?_⟩
    · have := (nI_leI (b := 0) (by omega) (by omega)).mp h
      omega
    · by_cases e : cntW A P = 0
      · rw [e] at h; exact absurd (Int32.le_refl _) h
      · omega
  induction d with
  | zero =>
    intro t A C N v x3 x4 h1 h2 hr hi hf hv hq
    have : t = 3600 := by omega
    subst this
    repeat (refine X_n rfl rfl rfl ?_)
    refine X_b rfl rfl rfl (fun q => ?_) (fun q => ?_)
    · exact done 3600 A C N v _ _ h2 hr hi hf (Or.inr rfl)
    repeat (refine X_n rfl rfl rfl ?_)
    refine X_bt rfl rfl rfl (Int32.le_refl _) ?_
    exact done 3600 A C N v _ _ h2 hr hi hf (Or.inr rfl)
  | succ d ih =>
    intro t A C N v x3 x4 h1 h2 hr hi hf hv hq
    repeat (refine X_n rfl rfl rfl ?_)
    refine X_b rfl rfl rfl (fun q => ?_) (fun q => ?_)
    · exact done t A C N v _ _ h2 hr hi hf (Or.inl ((cw A C N t hr).1 q))
    have hw := (cw A C N t hr).2 q
    repeat (refine X_n rfl rfl rfl ?_)
    refine X_b rfl rfl rfl (fun q2 => ?_) (fun q2 => ?_)
    · have : 3600 ≤ t := (nI_leI (by omega) (by omega)).mp q2
      exact done t A C N v _ _ h2 hr hi hf (Or.inr (by omega))
    have ht : t < 3600 := by
      rcases Nat.lt_or_ge t 3600 with g | g
      · exact g
      · exact absurd (nI_le g (by omega)) q2
    -- the second t' that is done now
    have go : ∀ u, t < u → u ≤ 3600 → (∀ w, t < w → w < u → quiet F C0 P w A) → X y_Flight_goAll 41 [some (.ref 29), some (.int (nI t)), some (.int v), x3, x4] [.int (nI u)] (hp F C J G) Q := by
      intro u hu1 hu2 hqu
      have hf2 : runF F C0 P (3600 - u) u (sec F C0 P u A) = fin F C0 P := by
        rw [← hf, run_skip (u - 1 - t) (3600 - t) t (by omega) hw (fun w a b => hqu w a (by omega))]
        rw [show t + (u - 1 - t) = u - 1 by omega, show 3600 - t - (u - 1 - t) = (3600 - u) + 1 by omega, runF, m_if_t hw, show u - 1 + 1 = u by omega]
      have hi2 : inv F C0 P (u - 1) A := hi.mono (by omega)
      have hs := sec_inv hF hS hP hi2 (by omega)
      rw [show u - 1 + 1 = u by omega] at hs
      have hi3 : inv F C0 P u A := hi.mono (by omega)
      repeat (refine X_n rfl rfl rfl ?_)
      refine X_k rfl rfl rfl rfl (Y_smokeEnd hF hP hi3 (hr.next hu1 hu2) (fun v1 C1 e1 e2 hr1 => ?_))
      dsimp only
      repeat (refine X_n rfl rfl rfl ?_)
      refine X_k rfl rfl rfl rfl (Y_stepAll hF hS hP hR hu2 hr1 (ct_inv hF hi3 (Nat.le_refl P)) (fun v2 C2 e3 e4 hr2 => ?_))
      dsimp only
      have fin2 : ∀ v w, (v = 0 ∨ v = 1) → (v = 0 → v1 = 0 ∧ v2 = 0) → X y_Flight_goAll 69 [some (.ref 29), some (.int (nI u)), some (.int w), some (.int v1), some (.int v2)] [.int v] (hp F C2 J G) Q := by
        intro v w hv hvv
        iterate 2 (refine X_n rfl rfl rfl ?_)
        refine ih u _ C2 _ v _ _ (by omega) hu2 hr2 hs hf2 hv (fun e => ?_)
        have hq1 := e2 (hvv e).1
        have ec := ct_quiet hq1 P (Nat.le_refl P)
        have hq2 := e4 (hvv e).2
        rw [ec] at hq2
        have hqq : quiet F C0 P u A := ⟨hq1, hq2⟩
        have : (List.foldl (go1 F C0 u) (ctI C0 u A P, fun _ => 0) (ordL F C0 (ctI C0 u A P) u P)).1 = A := sec_quiet hqq
        rw [this]
        exact hqq
      repeat (refine X_n rfl rfl rfl ?_)
      refine X_b rfl rfl rfl (fun r1 => ?_) (fun r1 => ?_)
      · iterate 2 (refine X_n rfl rfl rfl ?_)
        exact fin2 1 _ (Or.inr rfl) (fun e => absurd e (by decide))
      · have r1 : v1 = 0 := Classical.not_not.mp r1
        repeat (refine X_n rfl rfl rfl ?_)
        refine X_b rfl rfl rfl (fun r2 => ?_) (fun r2 => ?_)
        · iterate 1 (refine X_n rfl rfl rfl ?_)
          exact fin2 0 _ (Or.inl rfl) (fun _ => ⟨r1, r2⟩)
        · iterate 2 (refine X_n rfl rfl rfl ?_)
          exact fin2 1 _ (Or.inr rfl) (fun e => absurd e (by decide))
    rcases hv with e | e
    · subst e
      have hq := hq rfl
      repeat (refine X_n rfl rfl rfl ?_)
      refine X_bt rfl rfl rfl rfl ?_
      repeat (refine X_n rfl rfl rfl ?_)
      refine X_k rfl rfl rfl rfl (Y_nextChange hF hP hr hi ht (fun u hu1 hu2 hnc => ?_))
      dsimp only
      refine X_n rfl rfl rfl ?_
      refine X_top (w := nI u) ?_ ?_
      · have := max_of (show t + 1 ≤ u from hu1) (by omega)
        rw [nI_1']
        exact this
      · refine go u hu1 hu2 (fun w w1 w2 => quiet_skip hq (by omega) (by omega) (fun p hp h0 => ?_) (fun p hp h0 => ?_))
        · rcases (hnc p hp h0).1 with g | g
          · exact Or.inl g
          · exact Or.inr (Int32.lt_of_lt_of_le (nI_lt w2 (by omega)) g)
        · rcases (hnc p hp h0).2 with g | g
          · exact Or.inl g
          · exact Or.inr (Int32.lt_of_lt_of_le (nI_lt w2 (by omega)) g)
    · subst e
      repeat (refine X_n rfl rfl rfl ?_)
      refine X_bf rfl rfl rfl (show ¬ (1 : Int32) = 0 by decide) ?_
      iterate 2 (refine X_n rfl rfl rfl ?_)
      refine X_n rfl rfl rfl ?_
      refine X_top (w := nI (t + 1)) ?_ (go (t + 1) (by omega) (by omega) (fun w a b => by omega))
      rw [nI_1']
      show (if nI (t + 1) < nI 0 then nI 0 else nI (t + 1)) = _
      rw [if_neg (nI_nlt (by omega) (by omega))]
theorem Y_goAll (hF : okF F) (hS : okS F C0) (hP : okP F C0 P) (hR : rwC F C0 P)
    (kk : ∀ C' N', repC F C0 P (fin F C0 P).1 N' (fin F C0 P).2 C' → C' 29 8 = nI (fin F C0 P).1 → inv F C0 P (fin F C0 P).1 (fin F C0 P).2 → (fin F C0 P).1 ≤ 3600 → Q (.inl none) (hp F C' J G)) :
    Y y_Flight_goAll [.ref 29] (hp F C0 J G) Q := by
  unfold Y
  repeat (refine X_n rfl rfl rfl ?_)
  refine X_k rfl rfl rfl rfl (Y_begin hF hP hR (fun C' hb => ?_))
  dsimp only
  iterate 4 (refine X_n rfl rfl rfl ?_)
  exact Y_goAll_loop hF hS hP hR kk 3600 0 (bgn C0) C' _ 1 none none (by omega) (by omega) (repB_C hb) (bgn_inv hF hS hP) rfl (Or.inr rfl) (fun e => absurd e (by decide))
end
