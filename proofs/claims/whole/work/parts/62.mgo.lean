/-! the reference's run: a step -/
section
variable {F : Fx} {C0 A C : Ct} {P t p b k c : Nat} {N : Nat → Int32} {u18 : Int32} {J : Nat → Int64} {G : Ex} {Q : mE → mH → Prop}
theorem nI_neg1 {x : Int32} (h : x = -1 ∨ ∃ d, d < 576 ∧ x = nI d) : (x < 0 ↔ x = -1) ∧ (0 ≤ x ↔ ¬ x = -1) := by
  rcases h with e | ⟨d, hd, e⟩
  · rw [e]; decide
  · have h1 : ¬ nI d < 0 := nI_pos (by omega)
    have h2 : 0 ≤ nI d := nI_pos' (by omega)
    have h3 : ¬ nI d = -1 := nI_nm1 (by omega)
    rw [e]
    exact ⟨⟨fun h => absurd h h1, fun h => absurd h h3⟩, ⟨fun _ => h3, fun _ => h2⟩⟩
theorem nu_sg (hF : okF F) (hS : okS F C) {r c : Nat} (hr : r < 9) (hc : c < F.1 * F.2.1) : (nuC F C r c < 0 ↔ nuC F C r c = -1) ∧ (0 ≤ nuC F C r c ↔ ¬ nuC F C r c = -1) := by
  have hn := hF.n
  refine nI_neg1 ?_
  rcases nu_or hF hS hr hc with e | ⟨d, hd, e⟩
  · exact Or.inl e
  · exact Or.inr ⟨d, by omega, e⟩
theorem repM.nu (h : repM F C0 P u18 N A C) (hm : mnu F C0) {r : Nat} (hr : r < 9) (hc : c < F.1 * F.2.1) : C 179 (576 * whN r + cm F c) = nuC F C0 r c := by
  rw [h.1.1 179 (by omega) (by omega)]; exact hm r hr c hc
theorem Y_mnum (hF : okF F) (h : repM F C0 P u18 N A C) (hm : mnu F C0) {r : Nat} (hr : r < 9) (hc : c < F.1 * F.2.1) : Yd y_Model_numberOf [.ref 169, .int (nI (whN r)), .int (nI (cm F c))] (hp F C J G) (.inl (some (.int (nuC F C0 r c)))) (hp F C J G) := by
  rw [← h.nu hm hr hc]
  exact Y_numberOf (whN_le hr) (cm_in hF hc).2.2.2
theorem Y_goal (hF : okF F) (hS : okS F C0) (hP : okP F C0 P) (hc : mcf F C0 P) (hm : mnu F C0) (h : repM F C0 P u18 N A C) (hi : inv F C0 P t A) (hpP : p < P) (h0 : A 0 p = 0) : Yd y_Model_goal [.ref 169, .int (nI p)] (hp F C J G) (.inl (some (.int (nI (whN (gRow F C0 p)))))) (hp F C J G) := by
  refine Yd_of (fun Q kk => ?_)
  have hn := hF.n
  have hP60 := hP.1
  obtain ⟨⟨c, c1, c2, c3, c4⟩, -, -⟩ := hi.1 p hpP
  have ec := pA_eq hF c1 c2
  obtain ⟨g0, g1, g2, g3, g4, g5⟩ := h.2.1 p hpP
  have g4 := g4 h0
  rw [ec] at g4
  have e178 : C 178 p = C0 27 p := by rw [h.1.1 178 (by omega) (by omega)]; exact (hc.2.2.1 p hpP).2.2.2
  have hh := hRow_lt hP hpP
  have hc4 := c4 _ hh
  unfold gRow at kk
  rcases (hP.2.2.1 p hpP).2.2.2 with e | ⟨x, e, h8, -⟩
  · have hr0 : hRow C0 p = 0 := by unfold hRow; rw [e]; decide
    have kk : Q (.inl (some (.int (nI (whN 0))))) (hp F C J G) := by
      rw [hr0] at kk
      by_cases q : nuC F C0 0 (s0 C0 p) = -1
      · rw [m_if_t q] at kk; exact kk
      · rw [m_if_f q] at kk; exact kk
    unfold Y
    repeat (refine X_n rfl rfl rfl ?_)
    refine X_la rfl rfl rfl hF (show p < 60 by omega) ?_
    refine X_top (e178.trans e) ?_
    refine X_bt rfl rfl rfl (show (-1 : Int32) < 0 by decide) ?_
    repeat (refine X_n rfl rfl rfl ?_)
    refine X_bt rfl rfl rfl rfl ?_
    repeat (refine X_n rfl rfl rfl ?_)
    exact X_r rfl rfl rfl rfl kk
  · have hr1 : hRow C0 p = x + 1 := by unfold hRow; rw [e, nI_1, nI_clamp (by omega)]
    have hw : whN (x + 1) = x := rfl
    rw [hr1] at kk hc4 hh
    unfold Y
    repeat (refine X_n rfl rfl rfl ?_)
    refine X_la rfl rfl rfl hF (show p < 60 by omega) ?_
    refine X_top (e178.trans e) ?_
    refine X_bf rfl rfl rfl (nI_pos (by omega)) ?_
    repeat (refine X_n rfl rfl rfl ?_)
    refine X_la rfl rfl rfl hF (show p < 60 by omega) ?_
    refine X_top (e178.trans e) ?_
    repeat (refine X_n rfl rfl rfl ?_)
    refine X_la rfl rfl rfl hF (show p < 60 by omega) ?_
    refine X_top g4 ?_
    refine X_cd rfl rfl rfl rfl (hw ▸ Y_mnum (r := x + 1) hF h hm hh c1) ?_
    refine X_b rfl rfl rfl (fun q => ?_) (fun q => ?_)
    · have q := hc4.mp ((nu_sg hF hS hh c1).1.mp q)
      rw [m_if_t q] at kk
      repeat (refine X_n rfl rfl rfl ?_)
      refine X_bt rfl rfl rfl rfl ?_
      repeat (refine X_n rfl rfl rfl ?_)
      exact X_r rfl rfl rfl rfl kk
    · have q : ¬ nuC F C0 (x + 1) (s0 C0 p) = -1 := fun e => q ((nu_sg hF hS hh c1).1.mpr (hc4.mpr e))
      rw [m_if_f q] at kk
      repeat (refine X_n rfl rfl rfl ?_)
      refine X_bf rfl rfl rfl (show ¬ (1 : Int32) = 0 by decide) ?_
      repeat (refine X_n rfl rfl rfl ?_)
      refine X_la rfl rfl rfl hF (show p < 60 by omega) ?_
      refine X_top (e178.trans e) ?_
      repeat (refine X_n rfl rfl rfl ?_)
      exact X_r rfl rfl rfl rfl kk
theorem nI_sub {a b : Nat} (h : b ≤ a) : nI a - nI b = nI (a - b) := by
  have : nI a = nI (a - b) + nI b := by rw [nI_add]; congr 1; omega
  rw [this, Int32.add_sub_cancel]
theorem e600 (p k : Nat) : (Int16.ofInt 600).toInt32 * nI p + nI k = nI (600 * p + k) := by
  rw [show (Int16.ofInt 600).toInt32 = nI 600 from by decide, pk_mul, nI_add]
theorem Y_maySteps (hF : okF F) (hP : okP F C0 P) (hc : mcf F C0 P) (h : repM F C0 P u18 N A C) (hi : inv F C0 P t A) (ht : t ≤ 3600) (hpP : p < P) : Yd y_Model_maySteps [.ref 169, .int (nI p), .int (nI t)] (hp F C J G) (.inl (some (.int (bI (decide (A 9 p ≤ nI t)))))) (hp F C J G) := by
  refine Yd_of (fun Q kk => ?_)
  have hn := hF.n
  have hP60 := hP.1
  obtain ⟨-, ⟨k, k1, k2, k3, f, a, a1, a2, a3, a4, a5⟩, -⟩ := hi.1 p hpP
  obtain ⟨g0, g1, g2, g3, -, g5⟩ := h.2.1 p hpP
  have ek : (A 3 p).toNatClampNeg = k := by rw [k1, nI_clamp (by omega)]
  have e177 : C 177 p = C0 26 p := by rw [h.1.1 177 (by omega) (by omega)]; exact (hc.2.2.1 p hpP).2.2.1
  have e176 : C 176 p = nI a := by rw [h.1.1 176 (by omega) (by omega)]; exact ((hc.2.2.1 p hpP).2.1).trans a3
  have e184 : C 184 p = nI k := g3.trans k1
  have hf : f ≤ 3600 := by rcases a5 with g | g <;> omega
  -- the tail: f is the second to count from, d the delay
  have tail : ∀ d, d ≤ 3600 → C0 26 p = nI d → (f + a ≤ t → d < t) → (d < t → f ≤ t) → ∀ w, w = nI f → X y_Model_maySteps 37 [some (.ref 169), some (.int (nI p)), some (.int (nI t)), none] [.int w] (hp F C J G) Q := by
    intro d hd ed hda hdt w ew
    subst ew
    rw [a4] at kk
    repeat (refine X_n rfl rfl rfl ?_)
    refine X_la rfl rfl rfl hF (show p < 60 by omega) ?_
    refine X_top (e177.trans ed) ?_
    refine X_b rfl rfl rfl (fun q => ?_) (fun q => ?_)
    · have q : t ≤ d := (nI_leI (by omega) (by omega)).mp q
      rw [decide_eq_false (fun g => by have := (nI_leI (by omega) (by omega)).mp g; have := hda this; omega)] at kk
      repeat (refine X_n rfl rfl rfl ?_)
      exact X_r rfl rfl rfl rfl kk
    · have q : d < t := by
        rcases Nat.lt_or_ge d t with g | g
        · exact g
        · exact absurd (nI_le g (by omega)) q
      have hft := hdt q
      iterate 3 (refine X_n rfl rfl rfl ?_)
      refine X_top (nI_sub hft) ?_
      repeat (refine X_n rfl rfl rfl ?_)
      refine X_la rfl rfl rfl hF (show p < 60 by omega) ?_
      refine X_top e176 ?_
      refine X_b rfl rfl rfl (fun q2 => ?_) (fun q2 => ?_)
      · have q2 : t - f < a := (nI_ltI (by omega) (by omega)).mp q2
        rw [decide_eq_false (fun g => by have := (nI_leI (by omega) (by omega)).mp g; omega)] at kk
        repeat (refine X_n rfl rfl rfl ?_)
        exact X_r rfl rfl rfl rfl kk
      · have q2 : ¬ t - f < a := fun g => q2 (nI_lt g (by omega))
        rw [decide_eq_true (nI_le (by omega) (by omega))] at kk
        repeat (refine X_n rfl rfl rfl ?_)
        exact X_r rfl rfl rfl rfl kk
  unfold Y
  repeat (refine X_n rfl rfl rfl ?_)
  refine X_la rfl rfl rfl hF (show p < 60 by omega) ?_
  refine X_top e184 ?_
  rcases a5 with ⟨e0, f6, ef⟩ | ⟨e0, e7, ft, d, ed, df⟩
  · subst e0
    refine X_bf rfl rfl rfl (fun h => h rfl) ?_
    repeat (refine X_n rfl rfl rfl ?_)
    refine X_la rfl rfl rfl hF (show p < 60 by omega) ?_
    iterate 1 (refine X_n rfl rfl rfl ?_)
    exact tail f hf ef (by omega) (by omega) _ (e177.trans ef)
  · refine X_bt rfl rfl rfl (show ¬ nI k = 0 from fun e => by have := (nI_eq (b := 0) (by omega) (by omega)).mp e; omega) ?_
    repeat (refine X_n rfl rfl rfl ?_)
    refine X_la rfl rfl rfl hF (show p < 60 by omega) ?_
    refine X_top e184 ?_
    repeat (refine X_n rfl rfl rfl ?_)
    obtain ⟨k', rfl⟩ : ∃ k', k = k' + 1 := ⟨k - 1, by omega⟩
    refine X_la (k := 600 * p + k') rfl rfl ?_ hF (show 600 * p + k' < 36000 by omega) ?_
    · rw [e600, ← Nat.add_assoc]; exact nI_pred _
    · exact tail d (by omega) ed (by omega) (fun _ => ft) _ ((g5 k' (by omega)).1.trans e7)
theorem Y_mstep {out : Int32} (hF : okF F) (hp60 : p < 60) (hb : b < F.1 * F.2.1) (hc : c < F.1 * F.2.1) (hk : k < 600) (e1 : C 187 p = nI (cm F c)) (e2 : C 184 p = nI k)
    (kt : Q (.inl none) (hp F (st (st (st (st (stpM F C p b k c t) 181 p 1) 182 p (nI t)) 183 p (C 171 (cm F b))) 187 p (-1)) J G) ∨ out = 0)
    (kf : Q (.inl none) (hp F (st (st (stpM F C p b k c t) 187 p (nI (cm F b))) 188 (cm F b) (nI p)) J G) ∨ out = 1) (ho : out = 0 ∨ out = 1) :
    Y y_Model_step [.ref 169, .int (nI p), .int (nI t), .int (nI (cm F b)), .int out] (hp F C J G) Q := by
  have hb5 := (cm_in hF hb).2.2.2
  have hc5 := (cm_in hF hc).2.2.2
  have hx : 600 * p + k < 36000 := by omega
  unfold Y
  repeat (refine X_n rfl rfl rfl ?_)
  refine X_la rfl rfl rfl hF (show p < 60 from hp60) ?_
  repeat (refine X_n rfl rfl rfl ?_)
  refine X_sa (k := cm F c) rfl rfl e1 hF (show _ < 576 from hc5) ?_
  repeat (refine X_n rfl rfl rfl ?_)
  refine X_la rfl rfl rfl hF (show cm F b < 576 from hb5) ?_
  repeat (refine X_n rfl rfl rfl ?_)
  refine X_sa rfl rfl rfl hF (show cm F b < 576 from hb5) ?_
  repeat (refine X_n rfl rfl rfl ?_)
  refine X_la rfl rfl rfl hF (show cm F b < 576 from hb5) ?_
  repeat (refine X_n rfl rfl rfl ?_)
  refine X_sa rfl rfl rfl hF (show cm F b < 576 from hb5) ?_
  repeat (refine X_n rfl rfl rfl ?_)
  refine X_la rfl rfl rfl hF (show p < 60 from hp60) ?_
  refine X_top (w := nI k) e2 ?_
  repeat (refine X_n rfl rfl rfl ?_)
  refine X_sa (k := 600 * p + k) rfl rfl (e600 p k) hF (show _ < 36000 from hx) ?_
  repeat (refine X_n rfl rfl rfl ?_)
  refine X_la rfl rfl rfl hF (show p < 60 from hp60) ?_
  refine X_top (w := nI k) e2 ?_
  repeat (refine X_n rfl rfl rfl ?_)
  refine X_sa (k := 600 * p + k) rfl rfl (e600 p k) hF (show _ < 36000 from hx) ?_
  repeat (refine X_n rfl rfl rfl ?_)
  refine X_la rfl rfl rfl hF (show p < 60 from hp60) ?_
  refine X_top (w := nI k) e2 ?_
  repeat (refine X_n rfl rfl rfl ?_)
  refine X_sa rfl rfl rfl hF (show p < 60 from hp60) ?_
  rcases ho with e | e
  · subst e
    have kf := kf.resolve_right (by decide)
    repeat (refine X_n rfl rfl rfl ?_)
    refine X_bt rfl rfl rfl rfl ?_
    repeat (refine X_n rfl rfl rfl ?_)
    refine X_sa rfl rfl rfl hF (show p < 60 from hp60) ?_
    repeat (refine X_n rfl rfl rfl ?_)
    refine X_sa rfl rfl rfl hF (show cm F b < 576 from hb5) ?_
    exact X_r rfl rfl rfl rfl kf
  · subst e
    have kt := kt.resolve_right (by decide)
    repeat (refine X_n rfl rfl rfl ?_)
    refine X_bf rfl rfl rfl (show ¬ (1 : Int32) = 0 by decide) ?_
    repeat (refine X_n rfl rfl rfl ?_)
    refine X_sa rfl rfl rfl hF (show p < 60 from hp60) ?_
    repeat (refine X_n rfl rfl rfl ?_)
    refine X_sa rfl rfl rfl hF (show p < 60 from hp60) ?_
    repeat (refine X_n rfl rfl rfl ?_)
    refine X_la rfl rfl rfl hF (show cm F b < 576 from hb5) ?_
    refine X_sa rfl rfl rfl hF (show p < 60 from hp60) ?_
    repeat (refine X_n rfl rfl rfl ?_)
    refine X_sa rfl rfl rfl hF (show p < 60 from hp60) ?_
    repeat (refine X_n rfl rfl rfl ?_)
    exact X_r rfl rfl rfl rfl kt
theorem nbM_bs {m w : Nat} : nbM F C m w = match bsN F m w with | some d => (if C 170 d = 0 then some d else none) | none => none := rfl
theorem Y_mgo_loop (hF : okF F) (hS : okS F C0) (hg : okG F C0) (hP : okP F C0 P) (hmc : mcf F C0 P) (hm : mnu F C0) (hr : repM F C0 P u18 N A C) (hi : inv F C0 P t A) (ht : t ≤ 3600) (hpP : p < P) (h0 : A 0 p = 0) (hc : A 4 p = nI c) (hcn : c < F.1 * F.2.1) (hk : A 3 p = nI k) (hkn : k < F.1 * F.2.1)
    (kn : tgt F C0 A N t (gRow F C0 p) c 4 = none → Q (.inl none) (hp F C J G))
    (ky : ∀ b C', tgt F C0 A N t (gRow F C0 p) c 4 = some b → repM F C0 P u18 (upd N b (N b + 1)) (stp F C0 t p b A) C' → C' 191 = C 191 → Q (.inl none) (hp F C' J G)) :
    ∀ d x6 x7, d ≤ 4 → tgt F C0 A N t (gRow F C0 p) c 4 = tgt F C0 A N t (gRow F C0 p) c d → X y_Model_go 22 [some (.ref 169), some (.int (nI p)), some (.int (nI t)), some (.int (nI (whN (gRow F C0 p)))), some (.int (nuC F C0 (gRow F C0 p) c)), some (.int (nI (4 - d))), x6, x7] [] (hp F C J G) Q := by
  have hn := hF.n
  have hP60 := hP.1
  have hg9 := gRow_lt hP hpP
  have hc5 := (cm_in hF hcn).2.2.2
  obtain ⟨g0, g1, g2, g3, g4, g5⟩ := hr.2.1 p hpP
  have g4 := g4 h0
  rw [pA_eq hF hcn hc] at g4
  intro d
  induction d with
  | zero =>
    intro x6 x7 _ e
    repeat (refine X_n rfl rfl rfl ?_)
    refine X_bt rfl rfl rfl (Int32.le_refl _) ?_
    exact X_r rfl rfl rfl rfl (kn (e.trans rfl))
  | succ d ih =>
    intro x6 x7 hd e
    rw [show 4 - (d + 1) = 3 - d by omega]
    have nx : tgt F C0 A N t (gRow F C0 p) c (d + 1) = tgt F C0 A N t (gRow F C0 p) c d → ∀ x6 x7, X y_Model_go 154 [some (.ref 169), some (.int (nI p)), some (.int (nI t)), some (.int (nI (whN (gRow F C0 p)))), some (.int (nuC F C0 (gRow F C0 p) c)), some (.int (nI (3 - d))), x6, x7] [] (hp F C J G) Q := by
      intro e2 x6 x7
      iterate 2 (refine X_n rfl rfl rfl ?_)
      rw [nI_1', show 3 - d + 1 = 4 - d by omega]
      exact ih x6 x7 (by omega) (e.trans e2)
    -- b is no cell to step to
    have far : tgt F C0 A N t (gRow F C0 p) c (d + 1) = tgt F C0 A N t (gRow F C0 p) c d → ∀ x6 x7, X y_Model_go 73 [some (.ref 169), some (.int (nI p)), some (.int (nI t)), some (.int (nI (whN (gRow F C0 p)))), some (.int (nuC F C0 (gRow F C0 p) c)), some (.int (nI (3 - d))), x6, x7] [] (hp F C J G) Q := by
      intro e2 x6 x7
      repeat (refine X_n rfl rfl rfl ?_)
      refine X_bt rfl rfl rfl rfl ?_
      exact nx e2 _ _
    repeat (refine X_n rfl rfl rfl ?_)
    refine X_bf rfl rfl rfl (show ¬ nI 4 ≤ nI (3 - d) from nI_ge (by omega) (by omega)) ?_
    repeat (refine X_n rfl rfl rfl ?_)
    refine X_la rfl rfl rfl hF (show p < 60 by omega) ?_
    refine X_top g4 ?_
    repeat (refine X_n rfl rfl rfl ?_)
    refine X_cd rfl rfl rfl rfl (Y_beside (c := cm F c) (w := 3 - d) (by omega) (by omega)) ?_
    rw [bsI_eq hF hc5 (show 3 - d < 4 by omega)]
    have hiso := nb_iso hF hg hmc.1 hcn (show 3 - d < 4 by omega)
    rw [nbM_bs] at hiso
    cases hbs : bsN F (cm F c) (3 - d) with
    | none =>
      rw [hbs] at hiso
      dsimp only
      repeat (refine X_n rfl rfl rfl ?_)
      refine X_bt rfl rfl rfl (show (-1 : Int32) < 0 by decide) ?_
      refine far ?_ _ _
      rw [tgt, hiso]; rfl
    | some m =>
      rw [hbs] at hiso
      dsimp only at hiso ⊢
      obtain ⟨hms, hm5⟩ := bsN_in hF hbs
      have hb := mc_lt hF hms
      have ecm := cm_mc hF hms
      generalize mc F m = b at *
      subst ecm
      have hwall := (hmc.1.1 b hb).1
      have e170 : C 170 (cm F b) = if C0 2 b = 1 then 1 else 0 := by rw [hr.1.1 170 (by omega) (by omega)]; exact hwall
      have hnb : nbC C0 c (3 - d) = if C0 2 b = 1 then none else some b := by
        rw [hiso, hwall]
        by_cases q : C0 2 b = 1
        · rw [if_pos q, if_pos q, if_neg (by decide)]; rfl
        · rw [if_neg q, if_neg q, if_pos rfl]
          show some (mc F (cm F b)) = some b
          rw [mc_cm hF hb]
      have hskip : ¬ (¬ C0 2 b = 1 ∧ good F C0 A N t (gRow F C0 p) c b) → tgt F C0 A N t (gRow F C0 p) c (d + 1) = tgt F C0 A N t (gRow F C0 p) c d := by
        intro q
        rw [tgt, hnb]
        by_cases w : C0 2 b = 1
        · rw [if_pos w]
        · rw [if_neg w]; exact m_if_f (fun g => q ⟨w, g⟩)
      obtain ⟨r5, r6, r7⟩ := hr.2.2 b hb
      obtain ⟨b1, b2, b3⟩ := hmc.2.2.2 b hb
      have e173 : C 173 (cm F b) = C0 4 b := by rw [hr.1.1 173 (by omega) (by omega)]; exact b1
      have e172 : C 172 (cm F b) = C0 172 (cm F b) := by rw [hr.1.1 172 (by omega) (by omega)]
      have e171 : C 171 (cm F b) = C0 5 b := by rw [hr.1.1 171 (by omega) (by omega)]; exact (hmc.1.1 b hb).2
      have h188 : (A 5 b < 0 ↔ A 5 b = -1) ∧ (0 ≤ A 5 b ↔ ¬ A 5 b = -1) := nI_neg1 (by
        rcases hi.2 b hb with g | ⟨q, g1, g2⟩
        · exact Or.inl g
        · exact Or.inr ⟨q, by omega, g2⟩)
      have hbr : (0 ≤ C 173 (cm F b) ∧ C 173 (cm F b) ≤ nI t) ↔ brd C0 b t := by
        rw [e173]
        unfold brd
        rcases b2 with g | g
        · rw [g]; exact ⟨fun h => absurd h.1 (by decide), fun h => absurd rfl h.1⟩
        · exact ⟨fun h => ⟨fun e => by rw [e] at g; exact absurd g (by decide), h.2⟩, fun h => ⟨g, h.2⟩⟩
      have hgz : glM C (whN (gRow F C0 p)) (cm F b) ↔ nuC F C0 (gRow F C0 p) b = 0 := by
        rw [nu_zero hF hS hg9 hb, gl_iso hF hS hmc.1 (whN_gw hg9) hb]
        unfold glM
        rw [hr.1.1 171 (by omega) (by omega)]
      repeat (refine X_n rfl rfl rfl ?_)
      refine X_bf rfl rfl rfl (nI_pos (by omega)) ?_
      repeat (refine X_n rfl rfl rfl ?_)
      refine X_cd rfl rfl rfl rfl (Y_mnum hF hr hm hg9 hb) ?_
      refine X_b rfl rfl rfl (fun q1 => ?_) (fun q1 => ?_)
      · exact far (hskip (fun g => g.2.1.1 ((nu_sg hF hS hg9 hb).1.mp q1))) _ _
      have q1 : ¬ nuC F C0 (gRow F C0 p) b = -1 := fun h => q1 ((nu_sg hF hS hg9 hb).1.mpr h)
      repeat (refine X_n rfl rfl rfl ?_)
      refine X_cd rfl rfl rfl rfl (Y_mnum hF hr hm hg9 hb) ?_
      repeat (refine X_n rfl rfl rfl ?_)
      refine X_b rfl rfl rfl (fun q2 => ?_) (fun q2 => ?_)
      · exact far (hskip (fun g => Int32.not_lt.mpr q2 g.2.1.2)) _ _
      have q2 := Int32.not_le.mp q2
      repeat (refine X_n rfl rfl rfl ?_)
      refine X_bf rfl rfl rfl (show ¬ (1 : Int32) = 0 by decide) ?_
      repeat (refine X_n rfl rfl rfl ?_)
      refine X_lb rfl rfl rfl hF (show cm F b < 576 from hm5) ?_
      rw [e170]
      by_cases w : C0 2 b = 1
      · rw [if_pos w]
        refine X_bt rfl rfl rfl (show ¬ (1 : Int32) = 0 by decide) ?_
        exact nx (hskip (fun g => g.1 w)) _ _
      rw [if_neg w]
      refine X_bf rfl rfl rfl (fun h => h rfl) ?_
      repeat (refine X_n rfl rfl rfl ?_)
      refine X_la rfl rfl rfl hF (show cm F b < 576 from hm5) ?_
      rw [r5]
      refine X_b rfl rfl rfl (fun q3 => ?_) (fun q3 => ?_)
      · exact nx (hskip (fun g => h188.2.mp q3 g.2.2.1)) _ _
      have q3 : A 5 b = -1 := Classical.byContradiction (fun h => q3 (h188.2.mpr h))
      repeat (refine X_n rfl rfl rfl ?_)
      refine X_cd rfl rfl rfl rfl (Y_misBarred (c := cm F b) hm5) ?_
      refine X_nz rfl (fun q4 => ?_) (fun q4 => ?_)
      · exact nx (hskip (fun g => g.2.2.2.1 (hbr.mp q4))) _ _
      have q4 : ¬ brd C0 b t := fun h => q4 (hbr.mpr h)
      have fin8 : (¬ hasR C0 b ∨ N b < C0 3 b) → ∀ x7, X y_Model_go 138 [some (.ref 169), some (.int (nI p)), some (.int (nI t)), some (.int (nI (whN (gRow F C0 p)))), some (.int (nuC F C0 (gRow F C0 p) c)), some (.int (nI (3 - d))), some (.int (nI (cm F b))), x7] [] (hp F C J G) Q := by
        intro q5 x7
        have hgood : good F C0 A N t (gRow F C0 p) c b := ⟨⟨q1, q2⟩, q3, q4, q5⟩
        have htg : tgt F C0 A N t (gRow F C0 p) c 4 = some b := by rw [e, tgt, hnb, if_neg w]; exact m_if_t hgood
        have hstp := repM_stp (b := b) hr hi hF hP60 hpP hc hcn hb hk hkn (-1)
        have h191 : ∀ D : Ct, D = stpM F C p b k c t → D 191 = C 191 := fun D hD => by
          rw [hD]; unfold stpM
          rw [st_f (by omega), st_f (by omega), st_f (by omega), st_f (by omega), st_f (by omega), st_f (by omega)]
        have kt : nuC F C0 (gRow F C0 p) b = 0 → Q (.inl none) (hp F (st (st (st (st (stpM F C p b k c t) 181 p 1) 182 p (nI t)) 183 p (C 171 (cm F b))) 187 p (-1)) J G) := fun z => by
          rw [e171]
          exact ky b _ htg (hstp.1 z) (by rw [st_f (by omega), st_f (by omega), st_f (by omega), st_f (by omega)]; exact h191 _ rfl)
        have kf : ¬ nuC F C0 (gRow F C0 p) b = 0 → Q (.inl none) (hp F (st (st (stpM F C p b k c t) 187 p (nI (cm F b))) 188 (cm F b) (nI p)) J G) := fun z =>
          ky b _ htg (hstp.2 z h0) (by rw [st_f (by omega), st_f (by omega)]; exact h191 _ rfl)
        repeat (refine X_n rfl rfl rfl ?_)
        refine X_k rfl rfl rfl rfl (Y_isGoal (c := cm F b) hm5 (whN_le hg9) (fun z => ?_) (fun z => ?_))
        · dsimp only
          refine X_k rfl rfl rfl rfl (Y_mstep hF (by omega) hb hcn (show k < 600 by omega) g4 (g3.trans hk) (Or.inl ?_) (Or.inr rfl) (Or.inr rfl))
          dsimp only
          exact X_r rfl rfl rfl rfl (kt (hgz.mp z))
        · dsimp only
          refine X_k rfl rfl rfl rfl (Y_mstep hF (by omega) hb hcn (show k < 600 by omega) g4 (g3.trans hk) (Or.inr rfl) (Or.inl ?_) (Or.inl rfl))
          dsimp only
          exact X_r rfl rfl rfl rfl (kf (fun h => z (hgz.mpr h)))
      repeat (refine X_n rfl rfl rfl ?_)
      refine X_la rfl rfl rfl hF (show cm F b < 576 from hm5) ?_
      rw [e172]
      rcases b3 with ⟨v1, v2, v3⟩ | ⟨v1, v2⟩
      · rw [v2]
        refine X_bf rfl rfl rfl v3 ?_
        repeat (refine X_n rfl rfl rfl ?_)
        refine X_la rfl rfl rfl hF (show cm F b < 576 from hm5) ?_
        rw [r7]
        repeat (refine X_n rfl rfl rfl ?_)
        refine X_la rfl rfl rfl hF (show cm F b < 576 from hm5) ?_
        rw [e172, v2]
        refine X_b rfl rfl rfl (fun q5 => ?_) (fun q5 => ?_)
        · refine nx (hskip (fun g => ?_)) _ _
          rcases g.2.2.2.2 with u | u
          · exact u v1
          · exact Int32.not_lt.mpr q5 u
        · exact fin8 (Or.inr (Int32.not_le.mp q5)) _
      · rw [v2]
        refine X_bt rfl rfl rfl rfl ?_
        exact fin8 (Or.inl v1) _
theorem Y_mgo (hF : okF F) (hS : okS F C0) (hg : okG F C0) (hP : okP F C0 P) (hmc : mcf F C0 P) (hm : mnu F C0) (hr : repM F C0 P u18 N A C) (hi : inv F C0 P t A) (ht : t ≤ 3600) (hpP : p < P) (h0 : A 0 p = 0)
    (kn : tgt F C0 A N t (gRow F C0 p) (pA A p) 4 = none → Q (.inl none) (hp F C J G))
    (ky : ∀ b C', tgt F C0 A N t (gRow F C0 p) (pA A p) 4 = some b → repM F C0 P u18 (upd N b (N b + 1)) (stp F C0 t p b A) C' → C' 191 = C 191 → Q (.inl none) (hp F C' J G)) :
    Y y_Model_go [.ref 169, .int (nI p), .int (nI t)] (hp F C J G) Q := by
  have hn := hF.n
  have hP60 := hP.1
  obtain ⟨⟨c, c1, c2, c3, c4⟩, ⟨k, k1, k2, -⟩, -⟩ := hi.1 p hpP
  have ec := pA_eq hF c1 c2
  rw [ec] at kn ky
  obtain ⟨g0, g1, g2, g3, g4, g5⟩ := hr.2.1 p hpP
  have g4 := g4 h0
  rw [ec] at g4
  unfold Y
  repeat (refine X_n rfl rfl rfl ?_)
  refine X_cd rfl rfl rfl rfl (Y_goal hF hS hP hmc hm hr hi hpP h0) ?_
  repeat (refine X_n rfl rfl rfl ?_)
  refine X_la rfl rfl rfl hF (show p < 60 by omega) ?_
  refine X_top g4 ?_
  refine X_cd rfl rfl rfl rfl (Y_mnum hF hr hm (gRow_lt hP hpP) c1) ?_
  iterate 3 (refine X_n rfl rfl rfl ?_)
  exact Y_mgo_loop hF hS hg hP hmc hm hr hi ht hpP h0 c2 c1 k1 (by omega) kn ky 4 _ _ (Nat.le_refl 4) rfl
end
