/-! what is asked of a run: at, left -/
/-- where a person is behind a second: the steps from k on -/
def wk (A : Ct) (p : Nat) (s : Int32) : Nat → Nat → Nat → Nat
  | 0, _, c => c
  | d + 1, k, c => if A 7 (600 * p + k) ≤ s then wk A p s d (k + 1) (A 8 (600 * p + k)).toNatClampNeg else c
def pl (C A : Ct) (p : Nat) (s : Int32) : Nat := wk A p s (A 3 p).toNatClampNeg 0 (s0 C p)
def inB (A : Ct) (p : Nat) (s : Int32) : Prop := ¬ (0 ≤ A 1 p ∧ A 1 p ≤ s)
def cqP (A C : Ct) (p : Nat) : Prop := C 30 p = A 0 p ∧ C 31 p = A 1 p ∧ C 32 p = A 2 p ∧ C 33 p = A 3 p ∧ ∀ k, k < (A 3 p).toNatClampNeg → C (39 + p) k = A 7 (600 * p + k) ∧ C (100 + p) k = A 8 (600 * p + k)
def mqP (F : Fx) (A C : Ct) (p : Nat) : Prop := C 181 p = A 0 p ∧ C 182 p = A 1 p ∧ C 183 p = A 2 p ∧ C 184 p = A 3 p ∧ ∀ k, k < (A 3 p).toNatClampNeg → C 185 (600 * p + k) = A 7 (600 * p + k) ∧ C 186 (600 * p + k) = nI (cm F (A 8 (600 * p + k)).toNatClampNeg)
section
variable {F : Fx} {C A : Ct} {J : Nat → Int64} {G : Ex} {Q : mE → mH → Prop} {t T P p : Nat} {s : Int32}
theorem wk_lt {k0 : Nat} (hn : F.1 * F.2.1 ≤ 576) (h : ∀ j, j < k0 → ∃ c, c < F.1 * F.2.1 ∧ A 8 (600 * p + j) = nI c) : ∀ d k c, k + d = k0 → c < F.1 * F.2.1 → wk A p s d k c < F.1 * F.2.1 := by
  intro d
  induction d with
  | zero => intro k c _ hc; exact hc
  | succ d ih =>
    intro k c hk hc
    rw [wk]
    split
    · obtain ⟨x, hx, e⟩ := h k (by omega)
      exact ih (k + 1) _ (by omega) (by rw [e, nI_clamp (by omega)]; exact hx)
    · exact hc
theorem pl_lt (hF : okF F) (hP : okP F C P) (hp : p < P) (h : pinv F C T A p) : pl C A p s < F.1 * F.2.1 := by
  have hn := hF.n
  obtain ⟨-, ⟨k, k1, k2, k3, -⟩, -⟩ := h
  unfold pl
  rw [k1, nI_clamp (by omega)]
  exact wk_lt (k0 := k) hn (fun j hj => (k3 j hj).2) k 0 _ (by omega) (s0_lt hF hP hp).1
theorem inB_iff (hi : pinv F C T A p) (hT : T ≤ 3600) : (A 0 p = 0 ∨ s < A 1 p) ↔ inB A p s := by
  obtain ⟨-, -, h⟩ := hi
  unfold inB
  rcases h with ⟨h0, h1⟩ | ⟨h0, e, he, h1⟩
  · rw [h1]
    exact ⟨fun _ g => absurd g.1 (by decide), fun _ => Or.inl h0⟩
  · rw [h1]
    have hne : ¬ A 0 p = 0 := by rcases h0 with g | g <;> rw [g] <;> decide
    exact ⟨fun g q => by
      rcases g with g | g
      · exact hne g
      · exact Int32.not_lt.mpr q.2 g, fun g => Or.inr (Classical.byContradiction fun q => g ⟨nI_pos' (by omega), Int32.not_lt.mp q⟩)⟩
theorem Y_isIn (hF : okF F) (hp60 : p < 60) : Yd y_Flight_isInCellBehind [.ref 29, .int (nI p), .int s] (hp F C J G) (.inl (some (.int (bI (decide (C 30 p = 0 ∨ s < C 31 p)))))) (hp F C J G) := by
  refine Yd_of (fun Q k => ?_)
  unfold Y
  repeat (refine X_n rfl rfl rfl ?_)
  refine X_la rfl rfl rfl hF (show p < 60 from hp60) ?_
  refine X_b rfl rfl rfl (fun q => ?_) (fun q => ?_)
  · have q : C 30 p = 0 := q
    rw [decide_eq_true (Or.inl q)] at k
    repeat (refine X_n rfl rfl rfl ?_)
    exact X_r rfl rfl rfl rfl k
  · repeat (refine X_n rfl rfl rfl ?_)
    refine X_la rfl rfl rfl hF (show p < 60 from hp60) ?_
    repeat (refine X_n rfl rfl rfl ?_)
    refine X_b rfl rfl rfl (fun q2 => ?_) (fun q2 => ?_)
    · rw [decide_eq_false (fun h => h.elim q (fun g => Int32.not_lt.mpr q2 g))] at k
      repeat (refine X_n rfl rfl rfl ?_)
      exact X_r rfl rfl rfl rfl k
    · rw [decide_eq_true (Or.inr (Int32.not_le.mp q2))] at k
      repeat (refine X_n rfl rfl rfl ?_)
      exact X_r rfl rfl rfl rfl k
theorem Y_cellBehind_loop {k0 : Nat} (hF : okF F) (hp60 : p < 60) (hq : cqP A C p) (e3 : A 3 p = nI k0) (hk0 : k0 < F.1 * F.2.1) (h8 : ∀ j, j < k0 → ∃ c, c < F.1 * F.2.1 ∧ A 8 (600 * p + j) = nI c) :
    ∀ d k c, k + d = k0 → Q (.inl (some (.int (nI (wk A p s d k c))))) (hp F C J G) → X y_Flight_cellBehind 24 [some (.ref 29), some (.int (nI p)), some (.int s), some (.int (nI c)), some (.int (nI k))] [] (hp F C J G) Q := by
  have hn := hF.n
  obtain ⟨g0, g1, g2, g3, g7⟩ := hq
  rw [e3, nI_clamp (by omega)] at g7
  intro d
  induction d with
  | zero =>
    intro k c hk kk
    have : k = k0 := by omega
    subst this
    repeat (refine X_n rfl rfl rfl ?_)
    refine X_la rfl rfl rfl hF (show p < 60 from hp60) ?_
    refine X_top (g3.trans e3) ?_
    refine X_bt rfl rfl rfl (Int32.le_refl _) ?_
    repeat (refine X_n rfl rfl rfl ?_)
    exact X_r rfl rfl rfl rfl kk
  | succ d ih =>
    intro k c hk kk
    rw [wk] at kk
    repeat (refine X_n rfl rfl rfl ?_)
    refine X_la rfl rfl rfl hF (show p < 60 from hp60) ?_
    refine X_top (g3.trans e3) ?_
    refine X_bf rfl rfl rfl (show ¬ nI k0 ≤ nI k from nI_ge (by omega) (by omega)) ?_
    repeat (refine X_n rfl rfl rfl ?_)
    refine X_ln rfl rfl rfl rfl rfl hp60 (show 60 < 2 ^ 31 by omega) ?_
    repeat (refine X_n rfl rfl rfl ?_)
    refine X_li rfl (hp_at (kd_ss p hp60).1 (ln_0 (kd_ss p hp60).2)) rfl (show k < F.1 * F.2.1 by omega) (by omega) ?_
    refine X_top (g7 k (by omega)).1 ?_
    repeat (refine X_n rfl rfl rfl ?_)
    refine X_b rfl rfl rfl (fun q => ?_) (fun q => ?_)
    · rw [if_neg (Int32.not_le.mpr q)] at kk
      repeat (refine X_n rfl rfl rfl ?_)
      exact X_r rfl rfl rfl rfl kk
    · rw [if_pos (Int32.not_lt.mp q)] at kk
      obtain ⟨x, hx, e8⟩ := h8 k (by omega)
      rw [e8, nI_clamp (by omega)] at kk
      repeat (refine X_n rfl rfl rfl ?_)
      refine X_ln rfl rfl rfl rfl rfl hp60 (show 60 < 2 ^ 31 by omega) ?_
      repeat (refine X_n rfl rfl rfl ?_)
      refine X_li rfl (hp_at (kd_sc p hp60).1 (ln_0 (kd_sc p hp60).2)) rfl (show k < F.1 * F.2.1 by omega) (by omega) ?_
      refine X_top ((g7 k (by omega)).2.trans e8) ?_
      iterate 3 (refine X_n rfl rfl rfl ?_)
      rw [nI_1']
      exact ih (k + 1) x (by omega) kk
theorem Y_cellBehind (hF : okF F) (hP : okP F C P) (hpP : p < P) (hq : cqP A C p) (hi : pinv F C T A p) (hT : T ≤ 3600)
    (kn : ¬ inB A p s → Q (.inl (some (.int (-1)))) (hp F C J G)) (ky : inB A p s → Q (.inl (some (.int (nI (pl C A p s))))) (hp F C J G)) : Y y_Flight_cellBehind [.ref 29, .int (nI p), .int s] (hp F C J G) Q := by
  have hn := hF.n
  have hP60 := hP.1
  have hs := s0_lt hF hP hpP
  obtain ⟨-, ⟨k, k1, k2, k3, -⟩, -⟩ := id hi
  have hib := inB_iff (s := s) hi hT
  unfold Y
  repeat (refine X_n rfl rfl rfl ?_)
  refine X_cd rfl rfl rfl rfl (Y_isIn hF (show p < 60 by omega)) ?_
  refine X_nz rfl (fun q => ?_) (fun q => ?_)
  · have q : inB A p s := hib.mp (by rw [← hq.1, ← hq.2.1]; exact q)
    have ky := ky q
    unfold pl at ky
    rw [k1, nI_clamp (by omega)] at ky
    repeat (refine X_n rfl rfl rfl ?_)
    refine X_la rfl rfl rfl hF (show p < 60 by omega) ?_
    refine X_top hs.2.1 ?_
    iterate 3 (refine X_n rfl rfl rfl ?_)
    exact Y_cellBehind_loop hF (by omega) hq k1 (by omega) (fun j hj => (k3 j hj).2) k 0 _ (by omega) ky
  · repeat (refine X_n rfl rfl rfl ?_)
    exact X_r rfl rfl rfl rfl (kn (fun g => q (by rw [hq.1, hq.2.1]; exact hib.mpr g)))
theorem Y_placeAt_loop {k0 : Nat} (hF : okF F) (hp60 : p < 60) (hq : mqP F A C p) (e3 : A 3 p = nI k0) (hk0 : k0 < F.1 * F.2.1) :
    ∀ d k c, k + d = k0 → Q (.inl (some (.int (nI (cm F (wk A p s d k c)))))) (hp F C J G) → X y_Model_placeAt 31 [some (.ref 169), some (.int (nI p)), some (.int s), some (.int (nI (cm F c))), some (.int (nI k))] [] (hp F C J G) Q := by
  have hn := hF.n
  obtain ⟨g0, g1, g2, g3, g7⟩ := hq
  rw [e3, nI_clamp (by omega)] at g7
  intro d
  induction d with
  | zero =>
    intro k c hk kk
    have : k = k0 := by omega
    subst this
    repeat (refine X_n rfl rfl rfl ?_)
    refine X_la rfl rfl rfl hF (show p < 60 from hp60) ?_
    refine X_top (g3.trans e3) ?_
    refine X_bt rfl rfl rfl (Int32.le_refl _) ?_
    repeat (refine X_n rfl rfl rfl ?_)
    exact X_r rfl rfl rfl rfl kk
  | succ d ih =>
    intro k c hk kk
    rw [wk] at kk
    repeat (refine X_n rfl rfl rfl ?_)
    refine X_la rfl rfl rfl hF (show p < 60 from hp60) ?_
    refine X_top (g3.trans e3) ?_
    refine X_bf rfl rfl rfl (show ¬ nI k0 ≤ nI k from nI_ge (by omega) (by omega)) ?_
    repeat (refine X_n rfl rfl rfl ?_)
    refine X_la (k := 600 * p + k) rfl rfl (e600 p k) hF (show 600 * p + k < 36000 by omega) ?_
    refine X_top (g7 k (by omega)).1 ?_
    repeat (refine X_n rfl rfl rfl ?_)
    refine X_b rfl rfl rfl (fun q => ?_) (fun q => ?_)
    · rw [if_neg (Int32.not_le.mpr q)] at kk
      repeat (refine X_n rfl rfl rfl ?_)
      exact X_r rfl rfl rfl rfl kk
    · rw [if_pos (Int32.not_lt.mp q)] at kk
      repeat (refine X_n rfl rfl rfl ?_)
      refine X_la (k := 600 * p + k) rfl rfl (e600 p k) hF (show 600 * p + k < 36000 by omega) ?_
      refine X_top (g7 k (by omega)).2 ?_
      iterate 3 (refine X_n rfl rfl rfl ?_)
      rw [nI_1']
      exact ih (k + 1) _ (by omega) kk
theorem Y_placeAt (hF : okF F) (hP : okP F C P) (hmc : mcf F C P) (hpP : p < P) (hq : mqP F A C p) (hi : pinv F C T A p) (hT : T ≤ 3600)
    (kn : ¬ inB A p s → Q (.inl (some (.int (-1)))) (hp F C J G)) (ky : inB A p s → Q (.inl (some (.int (nI (cm F (pl C A p s)))))) (hp F C J G)) : Y y_Model_placeAt [.ref 169, .int (nI p), .int s] (hp F C J G) Q := by
  have hn := hF.n
  have hP60 := hP.1
  obtain ⟨-, ⟨k, k1, k2, k3, -⟩, -⟩ := hi
  have e1 := hq.2.1
  have go : inB A p s → X y_Model_placeAt 21 [some (.ref 169), some (.int (nI p)), some (.int s), none, none] [] (hp F C J G) Q := by
    intro q
    have ky := ky q
    unfold pl at ky
    rw [k1, nI_clamp (by omega)] at ky
    repeat (refine X_n rfl rfl rfl ?_)
    refine X_la rfl rfl rfl hF (show p < 60 by omega) ?_
    refine X_top (hmc.2.2.1 p hpP).1 ?_
    iterate 3 (refine X_n rfl rfl rfl ?_)
    exact Y_placeAt_loop hF (by omega) hq k1 (by omega) k 0 _ (by omega) ky
  unfold Y
  repeat (refine X_n rfl rfl rfl ?_)
  refine X_la rfl rfl rfl hF (show p < 60 by omega) ?_
  rw [e1]
  refine X_b rfl rfl rfl (fun q1 => ?_) (fun q1 => ?_)
  · exact go (fun g => Int32.not_lt.mpr g.1 q1)
  · repeat (refine X_n rfl rfl rfl ?_)
    refine X_la rfl rfl rfl hF (show p < 60 by omega) ?_
    rw [e1]
    repeat (refine X_n rfl rfl rfl ?_)
    refine X_b rfl rfl rfl (fun q2 => ?_) (fun q2 => ?_)
    · exact go (fun g => Int32.not_lt.mpr g.2 q2)
    · repeat (refine X_n rfl rfl rfl ?_)
      exact X_r rfl rfl rfl rfl (kn (fun g => g ⟨Int32.not_lt.mp q1, Int32.not_lt.mp q2⟩))
theorem Y_at {a s x : Int32} (hF : okF F) (hG : okX G t) (hP : okP F C P) (hb : C 0 5 = 0 ∨ C 0 5 = 1) (hr : C 0 5 = 1 → ∀ p, p < P → cqP A C p ∧ pinv F C T A p) (hT : T ≤ 3600) (hxy : ∀ c, c < F.1 * F.2.1 → C 7 c = nI (c % F.1) ∧ C 8 c = nI (c / F.1))
    (k7 : ¬ (0 ≤ a ∧ a < C 23 5) ∨ ¬ (0 ≤ s ∧ s ≤ 3600) ∨ ¬ (0 ≤ x ∧ x ≤ 1) → Q (.inr (194 + G.2.1)) (hp F C J (gx G 7)))
    (k8 : ∀ p j, p < P → a = nI p → (0 ≤ s ∧ s ≤ 3600) → j < 2 → x = nI j → C 0 5 = 0 → Q (.inr (194 + G.2.1)) (hp F C J (gx G 8)))
    (kn : ∀ p j, p < P → a = nI p → (0 ≤ s ∧ s ≤ 3600) → j < 2 → x = nI j → C 0 5 = 1 → ¬ inB A p s → Q (.inl (some (.int (-1)))) (hp F C J G))
    (ky : ∀ p j, p < P → a = nI p → (0 ≤ s ∧ s ≤ 3600) → j < 2 → x = nI j → C 0 5 = 1 → inB A p s → Q (.inl (some (.int (if j = 0 then nI (pl C A p s % F.1) else nI (pl C A p s / F.1))))) (hp F C J G)) :
    Y y_Esc_at [.ref 0, .int a, .int s, .int x] (hp F C J G) Q := by
  have hn := hF.n
  have hP60 := hP.1
  unfold Y
  repeat (refine X_n rfl rfl rfl ?_)
  refine X_cd rfl rfl rfl rfl Y_has ?_
  refine X_z rfl (fun q => ?_) (fun q => ?_)
  · exact X_w (x := 0) hG rfl rfl rfl rfl rfl (k7 (Or.inl q))
  obtain ⟨p, hpP, e⟩ := has_of hP60 hP.2.1 q
  repeat (refine X_n rfl rfl rfl ?_)
  refine X_cd rfl rfl rfl rfl Y_isWithin ?_
  refine X_z rfl (fun q2 => ?_) (fun q2 => ?_)
  · exact X_w (x := 0) hG rfl rfl rfl rfl rfl (k7 (Or.inr (Or.inl q2)))
  repeat (refine X_n rfl rfl rfl ?_)
  refine X_cd rfl rfl rfl rfl Y_isWithin ?_
  refine X_nz rfl (fun q3 => ?_) (fun q3 => ?_)
  · obtain ⟨j, hj, e2⟩ := i32_rng (m := 1) (by omega) q3.1 q3.2
    repeat (refine X_n rfl rfl rfl ?_)
    rcases hb with e0 | e0
    · refine X_bf rfl rfl rfl (show ¬ ¬ C 0 5 = 0 from fun h => h e0) ?_
      exact X_w (x := 0) hG rfl rfl rfl rfl rfl (k8 p j hpP e q2 (by omega) e2 e0)
    · refine X_bt rfl rfl rfl (show ¬ C 0 5 = 0 from fun h => by rw [e0] at h; exact absurd h (by decide)) ?_
      obtain ⟨hq, hi⟩ := hr e0 p hpP
      have kn := kn p j hpP e q2 (by omega) e2 e0
      have ky := ky p j hpP e q2 (by omega) e2 e0
      rw [e]
      repeat (refine X_n rfl rfl rfl ?_)
      refine X_k rfl rfl rfl rfl (Y_cellBehind hF hP hpP hq hi hT (fun w => ?_) (fun w => ?_))
      · dsimp only
        repeat (refine X_n rfl rfl rfl ?_)
        refine X_bf rfl rfl rfl (fun h => h rfl) ?_
        repeat (refine X_n rfl rfl rfl ?_)
        exact X_r rfl rfl rfl rfl (kn w)
      · have hpl := pl_lt (s := s) hF hP hpP hi
        have ky := ky w
        dsimp only
        repeat (refine X_n rfl rfl rfl ?_)
        refine X_bt rfl rfl rfl (nI_nm1 (by omega)) ?_
        rw [e2]
        repeat (refine X_n rfl rfl rfl ?_)
        have hj2 : j = 0 ∨ j = 1 := by omega
        rcases hj2 with ej | ej
        · subst ej
          refine X_bf rfl rfl rfl (show ¬ ¬ nI 0 = 0 from fun h => h rfl) ?_
          repeat (refine X_n rfl rfl rfl ?_)
          refine X_la rfl rfl rfl hF hpl ?_
          rw [(hxy _ hpl).1]
          repeat (refine X_n rfl rfl rfl ?_)
          exact X_r rfl rfl rfl rfl ky
        · subst ej
          refine X_bt rfl rfl rfl (show ¬ nI 1 = 0 by decide) ?_
          repeat (refine X_n rfl rfl rfl ?_)
          refine X_la rfl rfl rfl hF hpl ?_
          rw [(hxy _ hpl).2]
          exact X_r rfl rfl rfl rfl ky
  · exact X_w (x := 0) hG rfl rfl rfl rfl rfl (k7 (Or.inr (Or.inr q3)))
theorem Y_mat_no {a s x : Int32} (h : ¬ (0 ≤ a ∧ a < C 169 9) ∨ ¬ (0 ≤ s ∧ s ≤ 3600) ∨ ¬ (0 ≤ x ∧ x ≤ 1)) : Yd y_Model_at [.ref 169, .int a, .int s, .int x] (hp F C J G) (.inl (some (.int 0))) (hp F (st C 169 0 1) J G) := by
  refine Yd_of (fun Q k => ?_)
  have bad : ∀ L, L = [some (.ref 169), some (.int a), some (.int s), some (.int x), none, none] → X y_Model_at 36 L [] (hp F C J G) Q := by
    intro L hL
    subst hL
    repeat (refine X_n rfl rfl rfl ?_)
    refine X_bf rfl rfl rfl (fun h => h rfl) ?_
    repeat (refine X_n rfl rfl rfl ?_)
    refine X_cd rfl rfl rfl rfl Y_refuses ?_
    refine X_z rfl (fun q => absurd (by decide) q) (fun _ => ?_)
    repeat (refine X_n rfl rfl rfl ?_)
    exact X_r rfl rfl rfl rfl k
  unfold Y
  repeat (refine X_n rfl rfl rfl ?_)
  refine X_b rfl rfl rfl (fun q1 => ?_) (fun q1 => ?_)
  · exact bad _ rfl
  repeat (refine X_n rfl rfl rfl ?_)
  refine X_b rfl rfl rfl (fun q2 => ?_) (fun q2 => ?_)
  · exact bad _ rfl
  repeat (refine X_n rfl rfl rfl ?_)
  refine X_b rfl rfl rfl (fun q3 => ?_) (fun q3 => ?_)
  · exact bad _ rfl
  repeat (refine X_n rfl rfl rfl ?_)
  refine X_b rfl rfl rfl (fun q4 => ?_) (fun q4 => ?_)
  · exact bad _ rfl
  repeat (refine X_n rfl rfl rfl ?_)
  refine X_b rfl rfl rfl (fun q5 => ?_) (fun q5 => ?_)
  · exact bad _ rfl
  repeat (refine X_n rfl rfl rfl ?_)
  refine X_b rfl rfl rfl (fun q6 => ?_) (fun q6 => ?_)
  · exact bad _ rfl
  exfalso
  rcases h with h | h | h
  · exact h ⟨Int32.not_lt.mp q1, Int32.not_le.mp q2⟩
  · exact h ⟨Int32.not_lt.mp q3, Int32.not_lt.mp q4⟩
  · refine h ⟨Int32.not_lt.mp q5, ?_⟩
    have q6 : x < nI 2 := Int32.not_le.mp q6
    obtain ⟨j, hj, e⟩ := nI_of q5
    subst e
    have := (nI_ltI hj (by omega)).mp q6
    exact nI_le (b := 1) (by omega) (by omega)
theorem Y_mat_ok {p j : Nat} {s : Int32} {L : mL} (hP60 : P ≤ 60) (hP : C 169 9 = nI P) (hpP : p < P) (hs : 0 ≤ s ∧ s ≤ 3600) (hj : j < 2)
    (kk : X y_Model_at 49 [some (.ref 169), some (.int (nI p)), some (.int s), some (.int (nI j)), some (.int 1), none] [.ref 169] (hp F C J G) Q) : Y y_Model_at [.ref 169, .int (nI p), .int s, .int (nI j)] (hp F C J G) Q := by
  unfold Y
  repeat (refine X_n rfl rfl rfl ?_)
  refine X_bf rfl rfl rfl (nI_pos (by omega)) ?_
  repeat (refine X_n rfl rfl rfl ?_)
  refine X_bf rfl rfl rfl (show ¬ C 169 9 ≤ nI p by rw [hP]; exact nI_ge hpP (by omega)) ?_
  repeat (refine X_n rfl rfl rfl ?_)
  refine X_bf rfl rfl rfl (Int32.not_lt.mpr hs.1) ?_
  repeat (refine X_n rfl rfl rfl ?_)
  refine X_bf rfl rfl rfl (Int32.not_lt.mpr hs.2) ?_
  repeat (refine X_n rfl rfl rfl ?_)
  refine X_bf rfl rfl rfl (nI_pos (by omega)) ?_
  repeat (refine X_n rfl rfl rfl ?_)
  refine X_bf rfl rfl rfl (show ¬ nI 2 ≤ nI j from nI_ge (by omega) (by omega)) ?_
  repeat (refine X_n rfl rfl rfl ?_)
  refine X_bt rfl rfl rfl (show ¬ (1 : Int32) = 0 by decide) ?_
  exact kk
theorem Y_mat_no2 {p j : Nat} {s : Int32} (hP60 : P ≤ 60) (hP : C 169 9 = nI P) (hpP : p < P) (hs : 0 ≤ s ∧ s ≤ 3600) (hj : j < 2) (hr : C 169 17 = 0) : Yd y_Model_at [.ref 169, .int (nI p), .int s, .int (nI j)] (hp F C J G) (.inl (some (.int 0))) (hp F (st C 169 0 2) J G) := by
  refine Yd_of (fun Q k => ?_)
  refine Y_mat_ok (L := []) hP60 hP hpP hs hj ?_
  repeat (refine X_n rfl rfl rfl ?_)
  refine X_bf rfl rfl rfl (show ¬ ¬ C 169 17 = 0 from fun h => h hr) ?_
  repeat (refine X_n rfl rfl rfl ?_)
  refine X_cd rfl rfl rfl rfl Y_refuses ?_
  refine X_z rfl (fun q => absurd (by decide) q) (fun _ => ?_)
  repeat (refine X_n rfl rfl rfl ?_)
  exact X_r rfl rfl rfl rfl k
theorem Y_mat {p j : Nat} {s : Int32} (hF : okF F) (hPP : okP F C P) (hmc : mcf F C P) (hpP : p < P) (hs : 0 ≤ s ∧ s ≤ 3600) (hj : j < 2) (hr : C 169 17 = 1) (hq : mqP F A C p) (hi : pinv F C T A p) (hT : T ≤ 3600)
    (kn : ¬ inB A p s → Q (.inl (some (.int (-1)))) (hp F (st C 169 0 0) J G)) (ky : inB A p s → Q (.inl (some (.int (if j = 0 then nI (pl C A p s % F.1) else nI (pl C A p s / F.1))))) (hp F (st C 169 0 0) J G)) : Y y_Model_at [.ref 169, .int (nI p), .int s, .int (nI j)] (hp F C J G) Q := by
  have hn := hF.n
  have hP60 := hPP.1
  refine Y_mat_ok (L := []) hP60 hmc.2.1 hpP hs hj ?_
  repeat (refine X_n rfl rfl rfl ?_)
  refine X_bt rfl rfl rfl (show ¬ C 169 17 = 0 from fun h => by rw [hr] at h; exact absurd h (by decide)) ?_
  repeat (refine X_n rfl rfl rfl ?_)
  refine X_cd rfl rfl rfl rfl Y_refuses ?_
  refine X_z rfl (fun _ => ?_) (fun q => absurd q (by decide))
  rw [show st C 169 0 (Int32.ofInt 0) = st C 169 0 0 from rfl]
  have c0 : cfg C (st C 169 0 0) := fun k hk => st_f (by omega)
  have fk : ∀ k, k ≠ 169 → st C 169 0 0 k = C k := fun k hk => st_f hk
  have hP1 : okP F (st C 169 0 0) P := okP_cfg c0 hPP
  have hm1 : mcf F (st C 169 0 0) P := mcf_same c0 (fun k a b => fk k (by omega)) (st_i (by omega)) (st_i (by omega)) hmc
  have hq1 : mqP F A (st C 169 0 0) p := by
    unfold mqP at *
    rw [fk 181 (by omega), fk 182 (by omega), fk 183 (by omega), fk 184 (by omega), fk 185 (by omega), fk 186 (by omega)]
    exact hq
  have hi1 : pinv F (st C 169 0 0) T A p := by
    unfold pinv nuP opC s0 at *
    rw [nuC_cfg c0, gRow_cfg c0, fk 2 (by omega), fk 24 (by omega), fk 25 (by omega), fk 26 (by omega)]
    exact hi
  have epl : pl (st C 169 0 0) A p s = pl C A p s := by unfold pl s0; rw [fk 24 (by omega)]
  have hpl := pl_lt (s := s) hF hPP hpP hi
  obtain ⟨w1, w2, -, w5⟩ := cm_in hF hpl
  repeat (refine X_n rfl rfl rfl ?_)
  refine X_k rfl rfl rfl rfl (Y_placeAt (s := s) hF hP1 hm1 hpP hq1 hi1 hT (fun w => ?_) (fun w => ?_))
  · dsimp only
    repeat (refine X_n rfl rfl rfl ?_)
    refine X_bf rfl rfl rfl (show ¬ (0 : Int32) ≤ -1 by decide) ?_
    repeat (refine X_n rfl rfl rfl ?_)
    exact X_r rfl rfl rfl rfl (kn w)
  · have ky := ky w
    rw [epl]
    dsimp only
    repeat (refine X_n rfl rfl rfl ?_)
    refine X_bt rfl rfl rfl (nI_pos' (by omega)) ?_
    repeat (refine X_n rfl rfl rfl ?_)
    have hj2 : j = 0 ∨ j = 1 := by omega
    rcases hj2 with ej | ej
    · subst ej
      refine X_bf rfl rfl rfl (show ¬ ¬ nI 0 = 0 from fun h => h rfl) ?_
      repeat (refine X_n rfl rfl rfl ?_)
      refine X_rem rfl (by decide) ?_
      refine X_top (w := nI (pl C A p s % F.1)) ?_ ?_
      · rw [← w1]; exact pk_rem (d := 24) (by omega) (by omega) (by omega)
      · repeat (refine X_n rfl rfl rfl ?_)
        exact X_r rfl rfl rfl rfl ky
    · subst ej
      refine X_bt rfl rfl rfl (show ¬ nI 1 = 0 by decide) ?_
      repeat (refine X_n rfl rfl rfl ?_)
      refine X_div rfl (by decide) ?_
      refine X_top (w := nI (pl C A p s / F.1)) ?_ ?_
      · rw [← w2]; exact pk_div (d := 24) (by omega) (by omega) (by omega)
      · exact X_r rfl rfl rfl rfl ky
/-- how many are in their cells -/
noncomputable def cB (A : Ct) (s : Int32) : Nat → Nat
  | 0 => 0
  | i + 1 => cB A s i + m_if (inB A i s) 1 0
theorem Y_countB_loop (hF : okF F) (hP : okP F C P) (hr : ∀ p, p < P → cqP A C p ∧ pinv F C T A p) (hT : T ≤ 3600) (kk : Q (.inl (some (.int (nI (cB A s P))))) (hp F C J G)) :
    ∀ d i, i + d = P → X y_Flight_countBehind 4 [some (.ref 29), some (.int s), some (.int (nI (cB A s i))), some (.int (nI i))] [] (hp F C J G) Q := by
  have hP60 := hP.1
  intro d
  induction d with
  | zero =>
    intro i hd
    have : i = P := by omega
    subst this
    repeat (refine X_n rfl rfl rfl ?_)
    refine X_bt rfl rfl rfl (show C 23 5 ≤ nI i by rw [hP.2.1]; exact Int32.le_refl _) ?_
    repeat (refine X_n rfl rfl rfl ?_)
    exact X_r rfl rfl rfl rfl kk
  | succ d ih =>
    intro i hd
    have hiP : i < P := by omega
    obtain ⟨hq, hi⟩ := hr i hiP
    have hib := inB_iff (s := s) hi hT
    have ih := ih (i + 1) (by omega)
    rw [cB] at ih
    repeat (refine X_n rfl rfl rfl ?_)
    refine X_bf rfl rfl rfl (show ¬ C 23 5 ≤ nI i by rw [hP.2.1]; exact nI_ge hiP (by omega)) ?_
    repeat (refine X_n rfl rfl rfl ?_)
    refine X_cd rfl rfl rfl rfl (Y_isIn hF (show i < 60 by omega)) ?_
    refine X_z rfl (fun q => ?_) (fun q => ?_)
    · rw [m_if_f (fun g => q (by rw [hq.1, hq.2.1]; exact hib.mpr g))] at ih
      iterate 2 (refine X_n rfl rfl rfl ?_)
      rw [nI_1']
      exact ih
    · rw [m_if_t (hib.mp (by rw [← hq.1, ← hq.2.1]; exact q))] at ih
      iterate 3 (refine X_n rfl rfl rfl ?_)
      rw [nI_1', nI_1']
      exact ih
theorem Y_left {s : Int32} (hF : okF F) (hG : okX G t) (hP : okP F C P) (hb : C 0 5 = 0 ∨ C 0 5 = 1) (hr : C 0 5 = 1 → ∀ p, p < P → cqP A C p ∧ pinv F C T A p) (hT : T ≤ 3600)
    (k7 : ¬ (0 ≤ s ∧ s ≤ 3600) → Q (.inr (194 + G.2.1)) (hp F C J (gx G 7)))
    (k8 : (0 ≤ s ∧ s ≤ 3600) → C 0 5 = 0 → Q (.inr (194 + G.2.1)) (hp F C J (gx G 8)))
    (kr : (0 ≤ s ∧ s ≤ 3600) → C 0 5 = 1 → Q (.inl (some (.int (nI (cB A s P))))) (hp F C J G)) :
    Y y_Esc_left [.ref 0, .int s] (hp F C J G) Q := by
  unfold Y
  repeat (refine X_n rfl rfl rfl ?_)
  refine X_cd rfl rfl rfl rfl Y_isWithin ?_
  refine X_nz rfl (fun q => ?_) (fun q => ?_)
  · repeat (refine X_n rfl rfl rfl ?_)
    rcases hb with e | e
    · refine X_bf rfl rfl rfl (show ¬ ¬ C 0 5 = 0 from fun h => h e) ?_
      exact X_w (x := 0) hG rfl rfl rfl rfl rfl (k8 q e)
    · refine X_bt rfl rfl rfl (show ¬ C 0 5 = 0 from fun h => by rw [e] at h; exact absurd h (by decide)) ?_
      repeat (refine X_n rfl rfl rfl ?_)
      refine X_k rfl rfl rfl rfl (show Y y_Flight_countBehind [.ref 29, .int s] (hp F C J G) _ from ?_)
      unfold Y
      iterate 4 (refine X_n rfl rfl rfl ?_)
      refine Y_countB_loop (A := A) hF hP (hr e) hT ?_ P 0 (by omega)
      dsimp only
      exact X_r rfl rfl rfl rfl (kr q e)
  · exact X_w (x := 0) hG rfl rfl rfl rfl rfl (k7 q)
theorem Y_mleft_no {s : Int32} (h : ¬ (0 ≤ s ∧ s ≤ 3600)) : Yd y_Model_left [.ref 169, .int s] (hp F C J G) (.inl (some (.int 0))) (hp F (st C 169 0 1) J G) := by
  refine Yd_of (fun Q k => ?_)
  unfold Y
  repeat (refine X_n rfl rfl rfl ?_)
  refine X_b rfl rfl rfl (fun q1 => ?_) (fun q1 => ?_)
  · repeat (refine X_n rfl rfl rfl ?_)
    refine X_cd rfl rfl rfl rfl Y_refuses ?_
    refine X_z rfl (fun q => absurd (by decide) q) (fun _ => ?_)
    repeat (refine X_n rfl rfl rfl ?_)
    exact X_r rfl rfl rfl rfl k
  repeat (refine X_n rfl rfl rfl ?_)
  refine X_b rfl rfl rfl (fun q2 => ?_) (fun q2 => ?_)
  · exact absurd ⟨Int32.not_lt.mp q1, q2⟩ h
  · repeat (refine X_n rfl rfl rfl ?_)
    refine X_cd rfl rfl rfl rfl Y_refuses ?_
    refine X_z rfl (fun q => absurd (by decide) q) (fun _ => ?_)
    repeat (refine X_n rfl rfl rfl ?_)
    exact X_r rfl rfl rfl rfl k
theorem Y_mleft_no2 {s : Int32} (hs : 0 ≤ s ∧ s ≤ 3600) (hr : C 169 17 = 0) : Yd y_Model_left [.ref 169, .int s] (hp F C J G) (.inl (some (.int 0))) (hp F (st C 169 0 2) J G) := by
  refine Yd_of (fun Q k => ?_)
  unfold Y
  repeat (refine X_n rfl rfl rfl ?_)
  refine X_bf rfl rfl rfl (Int32.not_lt.mpr hs.1) ?_
  repeat (refine X_n rfl rfl rfl ?_)
  refine X_bt rfl rfl rfl hs.2 ?_
  repeat (refine X_n rfl rfl rfl ?_)
  refine X_bf rfl rfl rfl (show ¬ ¬ C 169 17 = 0 from fun h => h hr) ?_
  repeat (refine X_n rfl rfl rfl ?_)
  refine X_cd rfl rfl rfl rfl Y_refuses ?_
  refine X_z rfl (fun q => absurd (by decide) q) (fun _ => ?_)
  repeat (refine X_n rfl rfl rfl ?_)
  exact X_r rfl rfl rfl rfl k
theorem Y_mleft_loop (hF : okF F) (hP : okP F C P) (hmc : mcf F C P) (hr : ∀ p, p < P → mqP F A C p ∧ pinv F C T A p) (hT : T ≤ 3600) (kk : Q (.inl (some (.int (nI (cB A s P))))) (hp F C J G)) :
    ∀ d i, i + d = P → X y_Model_left 40 [some (.ref 169), some (.int s), some (.int (nI (cB A s i))), some (.int (nI i))] [] (hp F C J G) Q := by
  have hn := hF.n
  have hP60 := hP.1
  intro d
  induction d with
  | zero =>
    intro i hd
    have : i = P := by omega
    subst this
    repeat (refine X_n rfl rfl rfl ?_)
    refine X_bt rfl rfl rfl (show C 169 9 ≤ nI i by rw [hmc.2.1]; exact Int32.le_refl _) ?_
    repeat (refine X_n rfl rfl rfl ?_)
    exact X_r rfl rfl rfl rfl kk
  | succ d ih =>
    intro i hd
    have hiP : i < P := by omega
    obtain ⟨hq, hi⟩ := hr i hiP
    have ih := ih (i + 1) (by omega)
    have hpl := pl_lt (s := s) hF hP hiP hi
    have hc5 := (cm_in hF hpl).2.2.2
    rw [cB] at ih
    repeat (refine X_n rfl rfl rfl ?_)
    refine X_bf rfl rfl rfl (show ¬ C 169 9 ≤ nI i by rw [hmc.2.1]; exact nI_ge hiP (by omega)) ?_
    repeat (refine X_n rfl rfl rfl ?_)
    refine X_k rfl rfl rfl rfl (Y_placeAt (s := s) hF hP hmc hiP hq hi hT (fun w => ?_) (fun w => ?_))
    · rw [m_if_f w] at ih
      dsimp only
      refine X_bt rfl rfl rfl (show (-1 : Int32) < 0 by decide) ?_
      iterate 2 (refine X_n rfl rfl rfl ?_)
      refine X_top (w := nI (cB A s i)) ?_ ?_
      · exact nI_add _ 0
      iterate 3 (refine X_n rfl rfl rfl ?_)
      rw [nI_1']
      exact ih
    · rw [m_if_t w] at ih
      dsimp only
      refine X_bf rfl rfl rfl (nI_pos (by omega)) ?_
      iterate 3 (refine X_n rfl rfl rfl ?_)
      refine X_top (w := nI (cB A s i + 1)) (nI_1' _) ?_
      iterate 3 (refine X_n rfl rfl rfl ?_)
      rw [nI_1']
      exact ih
theorem Y_mleft {s : Int32} (hF : okF F) (hPP : okP F C P) (hmc : mcf F C P) (hs : 0 ≤ s ∧ s ≤ 3600) (hr : C 169 17 = 1) (hq : ∀ p, p < P → mqP F A C p ∧ pinv F C T A p) (hT : T ≤ 3600) : Yd y_Model_left [.ref 169, .int s] (hp F C J G) (.inl (some (.int (nI (cB A s P))))) (hp F (st C 169 0 0) J G) := by
  refine Yd_of (fun Q k => ?_)
  unfold Y
  repeat (refine X_n rfl rfl rfl ?_)
  refine X_bf rfl rfl rfl (Int32.not_lt.mpr hs.1) ?_
  repeat (refine X_n rfl rfl rfl ?_)
  refine X_bt rfl rfl rfl hs.2 ?_
  repeat (refine X_n rfl rfl rfl ?_)
  refine X_bt rfl rfl rfl (show ¬ C 169 17 = 0 from fun h => by rw [hr] at h; exact absurd h (by decide)) ?_
  repeat (refine X_n rfl rfl rfl ?_)
  refine X_cd rfl rfl rfl rfl Y_refuses ?_
  refine X_z rfl (fun _ => ?_) (fun q => absurd q (by decide))
  rw [show st C 169 0 (Int32.ofInt 0) = st C 169 0 0 from rfl]
  have c0 : cfg C (st C 169 0 0) := fun k hk => st_f (by omega)
  have fk : ∀ k, k ≠ 169 → st C 169 0 0 k = C k := fun k hk => st_f hk
  iterate 4 (refine X_n rfl rfl rfl ?_)
  refine Y_mleft_loop (A := A) (T := T) hF (okP_cfg c0 hPP) (mcf_same c0 (fun k a b => fk k (by omega)) (st_i (by omega)) (st_i (by omega)) hmc) (fun p hp => ⟨?_, ?_⟩) hT k P 0 (by omega)
  · have := (hq p hp).1
    unfold mqP at *
    rw [fk 181 (by omega), fk 182 (by omega), fk 183 (by omega), fk 184 (by omega), fk 185 (by omega), fk 186 (by omega)]
    exact this
  · have := (hq p hp).2
    unfold pinv nuP opC s0 at *
    rw [nuC_cfg c0, gRow_cfg c0, fk 2 (by omega), fk 24 (by omega), fk 25 (by omega), fk 26 (by omega)]
    exact this
end
