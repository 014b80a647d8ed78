/-! the class's signs: which cells show which turns -/
def near (C : Ct) (c x : Nat) : Prop := c = x ∨ (∃ w, w < 4 ∧ nbC C x w = some c) ∨ ∃ w b, w < 4 ∧ nbC C x w = some b ∧ ∃ w', w' < 4 ∧ nbC C b w' = some c
/-- those in S have the bit t, over what was before -/
def shA (F : Fx) (D0 D : Ct) (base : Nat → Nat) (t : Nat) (S : Nat → Prop) : Prop := (∀ k, k ≠ 166 → D k = D0 k) ∧ ∀ c, c < F.1 * F.2.1 → D 166 c = nI (m_if (S c) (2 ^ t) 0 ||| base c)
section
variable {F : Fx} {C D D0 : Ct} {J : Nat → Int64} {G : Ex} {Q : mE → mH → Prop} {t k e c x b : Nat} {base : Nat → Nat} {S S' : Nat → Prop}
theorem shA.iff (h : shA F D0 D base t S) (hs : ∀ c, c < F.1 * F.2.1 → (S c ↔ S' c)) : shA F D0 D base t S' := by
  refine ⟨h.1, fun c hc => ?_⟩
  rw [h.2 c hc]
  by_cases q : S c
  · rw [m_if_t q, m_if_t ((hs c hc).mp q)]
  · rw [m_if_f q, m_if_f (fun g => q ((hs c hc).mpr g))]
theorem shA.add (h : shA F D0 D base t S) (hx : x < F.1 * F.2.1) : shA F D0 (st D 166 x (D 166 x ||| nI (2 ^ t))) base t (fun c => S c ∨ c = x) := by
  refine ⟨fun k hk => by rw [st_f hk]; exact h.1 k hk, fun c hc => ?_⟩
  by_cases e : c = x
  · subst e
    rw [st_s, h.2 c hc, nI_or, m_if_t (Or.inr rfl)]
    congr 1
    by_cases q : S c
    · rw [m_if_t q, Nat.or_comm (2 ^ t) (base c), Nat.or_assoc, Nat.or_self, Nat.or_comm]
    · rw [m_if_f q, Nat.zero_or, Nat.or_comm]
  · rw [st_i e, h.2 c hc]
    by_cases q : S c
    · rw [m_if_t q, m_if_t (Or.inl q)]
    · rw [m_if_f q, m_if_f (fun g => g.elim q e)]
theorem shA.op (h : shA F D0 D base t S) (a w : Nat) : opB D a w = opB D0 a w := by
  unfold opB; rw [h.1 9 (by omega), h.1 2 (by omega)]
theorem shA.B (h : shA F D0 D base t S) (hB : okB F D0) : okB F D := by
  unfold okB; rw [h.1 9 (by omega)]; exact hB
theorem Y_showBeside_loop (hF : okF F) (hB : okB F D0) (hb : b < F.1 * F.2.1)
    (kk : ∀ D', shA F D0 D' base t (fun c => S c ∨ ∃ w, w < 4 ∧ nbC D0 b w = some c) → Q (.inl none) (hp F D' J G)) :
    ∀ d w D x4, w + d = 4 → shA F D0 D base t (fun c => S c ∨ ∃ w', w' < w ∧ nbC D0 b w' = some c) → X y_Signposts_showBeside 2 [some (.ref 164), some (.int (nI b)), some (.int (nI (2 ^ t))), some (.int (nI w)), x4] [] (hp F D J G) Q := by
  have hn := hF.n
  intro d
  induction d with
  | zero =>
    intro w D x4 hd h
    have : w = 4 := by omega
    subst this
    repeat (refine X_n rfl rfl rfl ?_)
    refine X_bt rfl rfl rfl (Int32.le_refl _) ?_
    exact X_r rfl rfl rfl rfl (kk D h)
  | succ d ih =>
    intro w D x4 hd h
    have nx : ∀ D x4, shA F D0 D base t (fun c => S c ∨ ∃ w', w' < w + 1 ∧ nbC D0 b w' = some c) → X y_Signposts_showBeside 35 [some (.ref 164), some (.int (nI b)), some (.int (nI (2 ^ t))), some (.int (nI w)), x4] [] (hp F D J G) Q := by
      intro D x4 h
      iterate 2 (refine X_n rfl rfl rfl ?_)
      rw [nI_1']
      exact ih (w + 1) D x4 (by omega) h
    repeat (refine X_n rfl rfl rfl ?_)
    refine X_bf rfl rfl rfl (show ¬ nI 4 ≤ nI w from nI_ge (by omega) (by omega)) ?_
    repeat (refine X_n rfl rfl rfl ?_)
    refine X_cd rfl rfl rfl rfl (Y_openBeside hF (h.B hB) hb (show w < 4 by omega)) ?_
    rw [h.op]
    rcases opB_cases hn hB hb (show w < 4 by omega) with ⟨e1, e2⟩ | ⟨d', hd', e1, e2, -, -⟩
    · rw [e1]
      repeat (refine X_n rfl rfl rfl ?_)
      refine X_bt rfl rfl rfl rfl ?_
      refine nx D _ (h.iff (fun c hc => ?_))
      constructor
      · rintro (g | ⟨w', g1, g2⟩)
        · exact Or.inl g
        · exact Or.inr ⟨w', by omega, g2⟩
      · rintro (g | ⟨w', g1, g2⟩)
        · exact Or.inl g
        · by_cases ew : w' = w
          · subst ew; rw [e2] at g2; cases g2
          · exact Or.inr ⟨w', by omega, g2⟩
    · rw [e1]
      repeat (refine X_n rfl rfl rfl ?_)
      refine X_bf rfl rfl rfl (nI_nm1 (by omega)) ?_
      repeat (refine X_n rfl rfl rfl ?_)
      refine X_la rfl rfl rfl hF hd' ?_
      repeat (refine X_n rfl rfl rfl ?_)
      refine X_sa rfl rfl rfl hF hd' ?_
      refine nx _ _ ((h.add hd').iff (fun c hc => ?_))
      constructor
      · rintro ((g | ⟨w', g1, g2⟩) | g)
        · exact Or.inl g
        · exact Or.inr ⟨w', by omega, g2⟩
        · subst g; exact Or.inr ⟨w, by omega, e2⟩
      · rintro (g | ⟨w', g1, g2⟩)
        · exact Or.inl (Or.inl g)
        · by_cases ew : w' = w
          · subst ew; rw [e2] at g2; cases g2; exact Or.inr rfl
          · exact Or.inl (Or.inr ⟨w', by omega, g2⟩)
theorem Y_showBeside (hF : okF F) (hB : okB F D0) (hb : b < F.1 * F.2.1) (h : shA F D0 D base t S)
    (kk : ∀ D', shA F D0 D' base t (fun c => S c ∨ ∃ w, w < 4 ∧ nbC D0 b w = some c) → Q (.inl none) (hp F D' J G)) : Y y_Signposts_showBeside [.ref 164, .int (nI b), .int (nI (2 ^ t))] (hp F D J G) Q := by
  unfold Y
  iterate 2 (refine X_n rfl rfl rfl ?_)
  exact Y_showBeside_loop hF hB hb kk 4 0 D none (by omega) (h.iff (fun c hc => ⟨fun g => Or.inl g, fun g => g.elim id (fun ⟨w', g1, _⟩ => by omega)⟩))
/-- one turn: the ways from its cell -/
theorem Y_show1_loop {x6 : Option Value} (hF : okF F) (hB : okB F D0) (hx : x < F.1 * F.2.1)
    (kk : ∀ D' x6, shA F D0 D' base t (fun c => near D0 c x) → X y_Signposts_showTurns 90 [some (.ref 164), some (.int (nI k)), some (.int (nI t)), some (.int (nI (2 ^ t))), some (.int (nI x)), some (.int (nI 4)), x6] [] (hp F D' J G) Q) :
    ∀ d w D x6, w + d = 4 → shA F D0 D base t (fun c => c = x ∨ (∃ w', w' < w ∧ nbC D0 x w' = some c) ∨ ∃ w' b, w' < w ∧ nbC D0 x w' = some b ∧ ∃ v, v < 4 ∧ nbC D0 b v = some c) → X y_Signposts_showTurns 41 [some (.ref 164), some (.int (nI k)), some (.int (nI t)), some (.int (nI (2 ^ t))), some (.int (nI x)), some (.int (nI w)), x6] [] (hp F D J G) Q := by
  have hn := hF.n
  intro d
  induction d with
  | zero =>
    intro w D x6 hd h
    have : w = 4 := by omega
    subst this
    repeat (refine X_n rfl rfl rfl ?_)
    refine X_bt rfl rfl rfl (Int32.le_refl _) ?_
    exact kk D x6 h
  | succ d ih =>
    intro w D x6 hd h
    have nx : ∀ D x6, shA F D0 D base t (fun c => c = x ∨ (∃ w', w' < w + 1 ∧ nbC D0 x w' = some c) ∨ ∃ w' b, w' < w + 1 ∧ nbC D0 x w' = some b ∧ ∃ v, v < 4 ∧ nbC D0 b v = some c) → X y_Signposts_showTurns 84 [some (.ref 164), some (.int (nI k)), some (.int (nI t)), some (.int (nI (2 ^ t))), some (.int (nI x)), some (.int (nI w)), x6] [] (hp F D J G) Q := by
      intro D x6 h
      iterate 2 (refine X_n rfl rfl rfl ?_)
      rw [nI_1']
      exact ih (w + 1) D x6 (by omega) h
    repeat (refine X_n rfl rfl rfl ?_)
    refine X_bf rfl rfl rfl (show ¬ nI 4 ≤ nI w from nI_ge (by omega) (by omega)) ?_
    repeat (refine X_n rfl rfl rfl ?_)
    refine X_cd rfl rfl rfl rfl (Y_openBeside hF (h.B hB) hx (show w < 4 by omega)) ?_
    rw [h.op]
    rcases opB_cases hn hB hx (show w < 4 by omega) with ⟨e1, e2⟩ | ⟨b, hb, e1, e2, -, -⟩
    · rw [e1]
      repeat (refine X_n rfl rfl rfl ?_)
      refine X_bt rfl rfl rfl rfl ?_
      refine nx D _ (h.iff (fun c hc => ?_))
      constructor
      · rintro (g | ⟨w', g1, g2⟩ | ⟨w', b, g1, g2⟩)
        · exact Or.inl g
        · exact Or.inr (Or.inl ⟨w', by omega, g2⟩)
        · exact Or.inr (Or.inr ⟨w', b, by omega, g2⟩)
      · rintro (g | ⟨w', g1, g2⟩ | ⟨w', b, g1, g2, g3⟩)
        · exact Or.inl g
        · by_cases ew : w' = w
          · subst ew; rw [e2] at g2; cases g2
          · exact Or.inr (Or.inl ⟨w', by omega, g2⟩)
        · by_cases ew : w' = w
          · subst ew; rw [e2] at g2; cases g2
          · exact Or.inr (Or.inr ⟨w', b, by omega, g2, g3⟩)
    · rw [e1]
      repeat (refine X_n rfl rfl rfl ?_)
      refine X_bf rfl rfl rfl (nI_nm1 (by omega)) ?_
      repeat (refine X_n rfl rfl rfl ?_)
      refine X_la rfl rfl rfl hF hb ?_
      repeat (refine X_n rfl rfl rfl ?_)
      refine X_sa rfl rfl rfl hF hb ?_
      repeat (refine X_n rfl rfl rfl ?_)
      refine X_k rfl rfl rfl rfl (Y_showBeside hF hB hb (h.add hb) (fun D' h' => ?_))
      dsimp only
      refine nx D' _ (h'.iff (fun c hc => ?_))
      constructor
      · rintro (((g | ⟨w', g1, g2⟩ | ⟨w', b', g1, g2⟩) | g) | ⟨w', g1, g2⟩)
        · exact Or.inl g
        · exact Or.inr (Or.inl ⟨w', by omega, g2⟩)
        · exact Or.inr (Or.inr ⟨w', b', by omega, g2⟩)
        · subst g; exact Or.inr (Or.inl ⟨w, by omega, e2⟩)
        · exact Or.inr (Or.inr ⟨w, b, by omega, e2, w', g1, g2⟩)
      · rintro (g | ⟨w', g1, g2⟩ | ⟨w', b', g1, g2, g3⟩)
        · exact Or.inl (Or.inl (Or.inl g))
        · by_cases ew : w' = w
          · subst ew; rw [e2] at g2; cases g2; exact Or.inl (Or.inr rfl)
          · exact Or.inl (Or.inl (Or.inr (Or.inl ⟨w', by omega, g2⟩)))
        · by_cases ew : w' = w
          · subst ew; rw [e2] at g2; cases g2; exact Or.inr g3
          · exact Or.inl (Or.inl (Or.inr (Or.inr ⟨w', b', by omega, g2, g3⟩)))
theorem arrL_at {f : Nat → Int32} : ∀ {l : List Nat} {o i : Nat}, arrL f o l → i < l.length → f (o + i) = nI (l.getD i 0) := by
  intro l
  induction l with
  | nil => intro o i _ h; exact absurd h (by simp)
  | cons a l ih =>
    intro o i h hi
    cases i with
    | zero => exact h.1
    | succ i =>
      have := ih h.2 (by rw [List.length_cons] at hi; omega : i < l.length)
      rw [show o + 1 + i = o + (i + 1) by omega] at this
      simpa using this
/-- the set of turns that a cell shows -/
noncomputable def shw (C : Ct) (T : List Nat) (c : Nat) (i : Nat) : Nat := msk (fun t => near C c (T.getD t 0)) i
theorem Y_showTurns_loop {T : List Nat} (hF : okF F) (hB : okB F C) (hT : ∀ x, x ∈ T → x < F.1 * F.2.1) (hk : T.length ≤ 12) (h165 : arrL (C 165) 0 T)
    (kk : ∀ D, (∀ k, k ≠ 166 → D k = C k) → (∀ c, c < F.1 * F.2.1 → D 166 c = nI (shw C T c T.length)) → Q (.inl none) (hp F D J G)) :
    ∀ d i D x3 x4 x5 x6, i + d = T.length → (∀ k, k ≠ 166 → D k = C k) → (∀ c, c < F.1 * F.2.1 → D 166 c = nI (shw C T c i)) → X y_Signposts_showTurns 10 [some (.ref 164), some (.int (nI T.length)), some (.int (nI i)), x3, x4, x5, x6] [] (hp F D J G) Q := by
  have hn := hF.n
  intro d
  induction d with
  | zero =>
    intro i D x3 x4 x5 x6 hd h1 h2
    have : i = T.length := by omega
    subst this
    repeat (refine X_n rfl rfl rfl ?_)
    refine X_bt rfl rfl rfl (Int32.le_refl _) ?_
    exact X_r rfl rfl rfl rfl (kk D h1 h2)
  | succ d ih =>
    intro i D x3 x4 x5 x6 hd h1 h2
    have hi : i < T.length := by omega
    have hx : T.getD i 0 < F.1 * F.2.1 := hT _ (getD_mem hi)
    have e165 : D 165 i = nI (T.getD i 0) := by rw [h1 165 (by omega)]; have := arrL_at h165 hi; rw [Nat.zero_add] at this; exact this
    have hop : ∀ a w, nbC D a w = nbC C a w := fun a w => by unfold nbC opB; rw [h1 9 (by omega), h1 2 (by omega)]
    have hB' : okB F D := by unfold okB; rw [h1 9 (by omega)]; exact hB
    repeat (refine X_n rfl rfl rfl ?_)
    refine X_bf rfl rfl rfl (show ¬ nI T.length ≤ nI i from nI_ge hi (by omega)) ?_
    iterate 3 (refine X_n rfl rfl rfl ?_)
    refine X_top (w := nI (2 ^ i)) (shl1 i (by omega)) ?_
    repeat (refine X_n rfl rfl rfl ?_)
    refine X_la rfl rfl rfl hF (show i < 12 by omega) ?_
    refine X_top (w := nI (T.getD i 0)) e165 ?_
    repeat (refine X_n rfl rfl rfl ?_)
    refine X_la rfl rfl rfl hF hx ?_
    repeat (refine X_n rfl rfl rfl ?_)
    refine X_sa rfl rfl rfl hF hx ?_
    iterate 2 (refine X_n rfl rfl rfl ?_)
    have h0 : shA F D D (fun c => shw C T c i) i (fun _ => False) := ⟨fun _ _ => rfl, fun c hc => by rw [m_if_f id, Nat.zero_or]; exact h2 c hc⟩
    refine Y_show1_loop (k := T.length) (x6 := x6) hF hB' hx (fun D' x6 h' => ?_) 4 0 _ _ (by omega) ((h0.add hx).iff (fun c hc => ?_))
    · iterate 2 (refine X_n rfl rfl rfl ?_)
      rw [nI_1']
      refine ih (i + 1) D' _ _ _ _ (by omega) (fun k hk => (h'.1 k hk).trans (h1 k hk)) (fun c hc => ?_)
      rw [h'.2 c hc]
      unfold shw
      rw [msk]
      have : near D c (T.getD i 0) = near C c (T.getD i 0) := by unfold near; simp only [hop]
      dsimp only
      rw [this]
    · constructor
      · rintro (g | g)
        · exact g.elim
        · exact Or.inl g
      · rintro (g | ⟨w', g1, -⟩ | ⟨w', b, g1, -⟩)
        · exact Or.inr g
        · omega
        · omega
theorem Y_showTurns {T : List Nat} (hF : okF F) (hB : okB F C) (hT : ∀ x, x ∈ T → x < F.1 * F.2.1) (hk : T.length ≤ 12) (h165 : arrL (C 165) 0 T)
    (kk : ∀ D, (∀ k, k ≠ 166 → D k = C k) → (∀ c, c < F.1 * F.2.1 → D 166 c = nI (shw C T c T.length)) → Q (.inl none) (hp F D J G)) : Y y_Signposts_showTurns [.ref 164, .int (nI T.length)] (hp F C J G) Q := by
  have hn := hF.n
  unfold Y
  repeat (refine X_n rfl rfl rfl ?_)
  refine X_cd rfl rfl rfl rfl (Y_fillC (k := 166) rfl rfl (by show F.1 * F.2.1 < _; omega)) ?_
  iterate 2 (refine X_n rfl rfl rfl ?_)
  refine Y_showTurns_loop hF hB hT hk h165 kk T.length 0 _ _ _ _ _ (by omega) (fun k hk => stA_f hk) (fun c hc => ?_)
  rw [stA_k]
  show (if c < F.1 * F.2.1 then _ else _) = _
  rw [if_pos hc]
  rfl
end
