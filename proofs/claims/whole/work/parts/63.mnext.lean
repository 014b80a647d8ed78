/-! the reference's run: who is next, a second -/
def mst (A C : Ct) (t p : Nat) : Prop := A 0 p = 0 ∧ A 9 p ≤ nI t ∧ C 191 p = 0
noncomputable def keyP (F : Fx) (C0 A : Ct) (p : Nat) : Int32 := m_if (nuP F C0 A p = -1) 100000 (nuP F C0 A p)
def leK (F : Fx) (C0 A : Ct) (a b : Nat) : Prop := keyP F C0 A a < keyP F C0 A b ∨ (keyP F C0 A a = keyP F C0 A b ∧ a ≤ b)
def nxt (F : Fx) (C0 A C : Ct) (P t : Nat) (v : Int32) : Prop := (v = -1 ∧ ∀ p, p < P → ¬ mst A C t p) ∨ ∃ a, a < P ∧ v = nI a ∧ mst A C t a ∧ ∀ b, b < P → mst A C t b → leK F C0 A a b
section
variable {F : Fx} {C0 A C : Ct} {P t p b k c : Nat} {N : Nat → Int32} {u18 : Int32} {J : Nat → Int64} {G : Ex} {Q : mE → mH → Prop}
theorem Y_nextOne_loop (hF : okF F) (hS : okS F C0) (hP : okP F C0 P) (hmc : mcf F C0 P) (hm : mnu F C0) (hr : repM F C0 P u18 N A C) (hi : inv F C0 P t A) (ht : t ≤ 3600)
    (kk : ∀ v, nxt F C0 A C P t v → Q (.inl (some (.int v))) (hp F C J G)) :
    ∀ d i v w x5, i + d = P → ((v = -1 ∧ ∀ p, p < i → ¬ mst A C t p) ∨ ∃ a, a < i ∧ v = nI a ∧ w = keyP F C0 A a ∧ mst A C t a ∧ ∀ b, b < i → mst A C t b → leK F C0 A a b) → X y_Model_nextOne 7 [some (.ref 169), some (.int (nI t)), some (.int v), some (.int w), some (.int (nI i)), x5] [] (hp F C J G) Q := by
  have hn := hF.n
  have hP60 := hP.1
  have e9 := hr.in hmc
  intro d
  induction d with
  | zero =>
    intro i v w x5 hd h
    have : i = P := by omega
    subst this
    repeat (refine X_n rfl rfl rfl ?_)
    refine X_bt rfl rfl rfl (show C 169 9 ≤ nI i by rw [e9]; exact Int32.le_refl _) ?_
    repeat (refine X_n rfl rfl rfl ?_)
    refine X_r rfl rfl rfl rfl (kk v ?_)
    rcases h with h | ⟨a, h1, h2, -, h3⟩
    · exact Or.inl h
    · exact Or.inr ⟨a, h1, h2, h3⟩
  | succ d ih =>
    intro i v w x5 hd h
    have hiP : i < P := by omega
    obtain ⟨⟨c, c1, c2, c3, c4⟩, -, -⟩ := hi.1 i hiP
    have ec := pA_eq hF c1 c2
    obtain ⟨g0, g1, g2, g3, g4, g5⟩ := hr.2.1 i hiP
    have nx : ∀ v w x5, ((v = -1 ∧ ∀ p, p < i + 1 → ¬ mst A C t p) ∨ ∃ a, a < i + 1 ∧ v = nI a ∧ w = keyP F C0 A a ∧ mst A C t a ∧ ∀ b, b < i + 1 → mst A C t b → leK F C0 A a b) → X y_Model_nextOne 95 [some (.ref 169), some (.int (nI t)), some (.int v), some (.int w), some (.int (nI i)), x5] [] (hp F C J G) Q := by
      intro v w x5 h
      iterate 2 (refine X_n rfl rfl rfl ?_)
      rw [nI_1']
      exact ih (i + 1) v w x5 (by omega) h
    have no : ¬ mst A C t i → ∀ x5, X y_Model_nextOne 95 [some (.ref 169), some (.int (nI t)), some (.int v), some (.int w), some (.int (nI i)), x5] [] (hp F C J G) Q := by
      intro hno x5
      refine nx v w x5 ?_
      rcases h with ⟨h1, h2⟩ | ⟨a, h1, h2, h3, h4, h5⟩
      · refine Or.inl ⟨h1, fun p hp => ?_⟩
        by_cases e : p = i
        · subst e; exact hno
        · exact h2 p (by omega)
      · refine Or.inr ⟨a, by omega, h2, h3, h4, fun b hb hm => ?_⟩
        by_cases e : b = i
        · subst e; exact absurd hm hno
        · exact h5 b (by omega) hm
    repeat (refine X_n rfl rfl rfl ?_)
    refine X_bf rfl rfl rfl (show ¬ C 169 9 ≤ nI i by rw [e9]; exact nI_ge hiP (by omega)) ?_
    repeat (refine X_n rfl rfl rfl ?_)
    refine X_la rfl rfl rfl hF (show i < 60 by omega) ?_
    rw [g0]
    refine X_b rfl rfl rfl (fun q => ?_) (fun q => ?_)
    · exact no (fun h => q h.1) _
    have q : A 0 i = 0 := Classical.not_not.mp q
    have g4 := g4 q
    rw [ec] at g4
    repeat (refine X_n rfl rfl rfl ?_)
    refine X_lb rfl rfl rfl hF (show i < 60 by omega) ?_
    refine X_b rfl rfl rfl (fun q2 => ?_) (fun q2 => ?_)
    · exact no (fun h => q2 h.2.2) _
    have q2 : C 191 i = 0 := Classical.not_not.mp q2
    repeat (refine X_n rfl rfl rfl ?_)
    refine X_cd rfl rfl rfl rfl (Y_maySteps hF hP hmc hr hi ht hiP) ?_
    refine X_z rfl (fun q3 => ?_) (fun q3 => ?_)
    · exact no (fun h => q3 h.2.1) _
    have hmi : mst A C t i := ⟨q, q3, q2⟩
    have st79 : ∀ k5, k5 = keyP F C0 A i → X y_Model_nextOne 79 [some (.ref 169), some (.int (nI t)), some (.int v), some (.int w), some (.int (nI i)), some (.int k5)] [] (hp F C J G) Q := by
      intro k5 hk5
      subst hk5
      rcases h with ⟨h1, h2⟩ | ⟨a, h1, h2, h3, h4, h5⟩
      · subst h1
        repeat (refine X_n rfl rfl rfl ?_)
        refine X_bt rfl rfl rfl (show (-1 : Int32) < 0 by decide) ?_
        iterate 4 (refine X_n rfl rfl rfl ?_)
        refine nx (nI i) _ _ (Or.inr ⟨i, by omega, rfl, rfl, hmi, fun b hb hmb => ?_⟩)
        by_cases e : b = i
        · subst e; exact Or.inr ⟨rfl, Nat.le_refl b⟩
        · exact absurd hmb (h2 b (by omega))
      · subst h2
        subst h3
        repeat (refine X_n rfl rfl rfl ?_)
        refine X_bf rfl rfl rfl (nI_pos (by omega)) ?_
        repeat (refine X_n rfl rfl rfl ?_)
        refine X_b rfl rfl rfl (fun q5 => ?_) (fun q5 => ?_)
        · refine nx (nI a) _ _ (Or.inr ⟨a, by omega, rfl, rfl, h4, fun b hb hmb => ?_⟩)
          by_cases e : b = i
          · subst e
            rcases Int32.lt_or_eq_of_le q5 with g | g
            · exact Or.inl g
            · exact Or.inr ⟨g, by omega⟩
          · exact h5 b (by omega) hmb
        · have q5 := Int32.not_le.mp q5
          iterate 4 (refine X_n rfl rfl rfl ?_)
          refine nx (nI i) _ _ (Or.inr ⟨i, by omega, rfl, rfl, hmi, fun b hb hmb => ?_⟩)
          by_cases e : b = i
          · subst e; exact Or.inr ⟨rfl, Nat.le_refl b⟩
          · rcases h5 b (by omega) hmb with g | ⟨g, -⟩
            · exact Or.inl (Int32.lt_trans q5 g)
            · exact Or.inl (g ▸ q5)
    have enu : nuP F C0 A i = nuC F C0 (gRow F C0 i) c := by unfold nuP; rw [ec]
    repeat (refine X_n rfl rfl rfl ?_)
    refine X_cd rfl rfl rfl rfl (Y_goal hF hS hP hmc hm hr hi hiP q) ?_
    repeat (refine X_n rfl rfl rfl ?_)
    refine X_la rfl rfl rfl hF (show i < 60 by omega) ?_
    refine X_top g4 ?_
    refine X_cd rfl rfl rfl rfl (Y_mnum hF hr hm (gRow_lt hP hiP) c1) ?_
    repeat (refine X_n rfl rfl rfl ?_)
    refine X_b rfl rfl rfl (fun q4 => ?_) (fun q4 => ?_)
    · iterate 2 (refine X_n rfl rfl rfl ?_)
      refine st79 _ ?_
      unfold keyP
      rw [enu, m_if_f ((nu_sg hF hS (gRow_lt hP hiP) c1).2.mp q4)]
    · iterate 3 (refine X_n rfl rfl rfl ?_)
      refine st79 _ ?_
      unfold keyP
      rw [enu, m_if_t (Classical.byContradiction fun h => q4 ((nu_sg hF hS (gRow_lt hP hiP) c1).2.mpr h))]
theorem Y_nextOne (hF : okF F) (hS : okS F C0) (hP : okP F C0 P) (hmc : mcf F C0 P) (hm : mnu F C0) (hr : repM F C0 P u18 N A C) (hi : inv F C0 P t A) (ht : t ≤ 3600)
    (kk : ∀ v, nxt F C0 A C P t v → Q (.inl (some (.int v))) (hp F C J G)) : Y y_Model_nextOne [.ref 169, .int (nI t)] (hp F C J G) Q := by
  unfold Y
  iterate 6 (refine X_n rfl rfl rfl ?_)
  exact Y_nextOne_loop hF hS hP hmc hm hr hi ht kk P 0 (-1) 0 none (by omega) (Or.inl ⟨rfl, fun p hp => by omega⟩)
theorem repM.gone {g : Nat → Int32} (h : repM F C0 P u18 N A C) : repM F C0 P u18 N A (stA C 191 g) := by
  obtain ⟨⟨h1, h1'⟩, h2, h3⟩ := h
  refine ⟨⟨fun k hk h169 => ?_, fun j => ?_⟩, fun q hq => ?_, fun d hd => ?_⟩
  · rw [stA_f (by omega)]; exact h1 k hk h169
  · rw [stA_f (by omega)]; exact h1' j
  · have := h2 q hq
    unfold repQ at *
    simpa [stA_r] using this
  · simpa [stA_r] using h3 d hd
/-- without a number nobody steps -/
theorem tgt_un (hF : okF F) (hS : okS F C0) {r : Nat} (hr : r < 9) (hc : c < F.1 * F.2.1) (h : nuC F C0 r c = -1) : tgt F C0 A N t r c 4 = none := by
  rw [tgt_none 4 (Nat.le_refl 4)]
  intro w b h1 h2 h3 hg
  have hb := (nbC_in hF hS hc h2 h3).1
  have hn := hF.n
  rcases nu_or hF hS hr hb with e | ⟨d, hd, e⟩
  · exact hg.1.1 e
  · have := hg.1.2
    rw [e, h] at this
    exact absurd (Int32.lt_of_le_of_lt (nI_pos' (n := d) (by omega)) this) (by decide)
theorem key_lt (hF : okF F) (hS : okS F C0) (hP : okP F C0 P) (hi : inv F C0 P t A) (hp : p < P) (h : ¬ nuP F C0 A p = -1) : keyP F C0 A p = nuP F C0 A p ∧ nuP F C0 A p < 100000 := by
  have hn := hF.n
  obtain ⟨⟨c, c1, c2, c3, c4⟩, -, -⟩ := hi.1 p hp
  refine ⟨m_if_f h, ?_⟩
  unfold nuP at *
  rw [pA_eq hF c1 c2] at *
  rcases nu_or hF hS (gRow_lt hP hp) c1 with e | ⟨d, hd, e⟩
  · exact absurd e h
  · rw [e]; exact nI_lt (a := d) (b := 100000) (by omega) (by omega)
theorem Y_second_loop {z1 : Ct × (Nat → Int32)} (hF : okF F) (hS : okS F C0) (hg : okG F C0) (hP : okP F C0 P) (hmc : mcf F C0 P) (hm : mnu F C0) (ht : t ≤ 3600)
    (kk : ∀ C', repM F C0 P u18 z1.2 z1.1 C' → Q (.inl none) (hp F C' J G)) :
    ∀ d (l2 : List Nat) (z : Ct × (Nat → Int32)) C v, cntW (fun _ => C 191) P = d → l2.foldl (go1 F C0 t) z = z1 → repM F C0 P u18 z.2 z.1 C → inv F C0 P t z.1 → l2.Pairwise (lx F C0 z.1) → (∀ p, p ∈ l2 → p < P) → (∀ p, p < P → ((mst z.1 C t p ∧ ¬ nuP F C0 z.1 p = -1) ↔ p ∈ l2)) → nxt F C0 z.1 C P t v →
    X y_Model_second 107 [some (.ref 169), some (.int (nI t)), some (.int v)] [] (hp F C J G) Q := by
  have hn := hF.n
  have hP60 := hP.1
  intro d
  induction d with
  | zero =>
    intro l2 z C v hd hf hr hi hpw hlP hl hv
    rcases hv with ⟨e, hno⟩ | ⟨a, ha, e, hma, hmin⟩
    · have : l2 = [] := by
        cases l2 with
        | nil => rfl
        | cons a l => exact absurd ((hl a (hlP a (List.mem_cons_self ..))).mpr (List.mem_cons_self ..)).1 (hno a (hlP a (List.mem_cons_self ..)))
      subst this
      subst e
      have hf : z = z1 := hf
      repeat (refine X_n rfl rfl rfl ?_)
      refine X_bt rfl rfl rfl (show (-1 : Int32) < 0 by decide) ?_
      exact X_r rfl rfl rfl rfl (kk C (hf ▸ hr))
    · exact absurd (cntW_pos.mpr ⟨a, ha, hma.2.2⟩) (by rw [hd]; omega)
  | succ d ih =>
    intro l2 z C v hd hf hr hi hpw hlP hl hv
    rcases hv with ⟨e, hno⟩ | ⟨a, ha, e, hma, hmin⟩
    · have : l2 = [] := by
        cases l2 with
        | nil => rfl
        | cons a l => exact absurd ((hl a (hlP a (List.mem_cons_self ..))).mpr (List.mem_cons_self ..)).1 (hno a (hlP a (List.mem_cons_self ..)))
      subst this
      subst e
      have hf : z = z1 := hf
      repeat (refine X_n rfl rfl rfl ?_)
      refine X_bt rfl rfl rfl (show (-1 : Int32) < 0 by decide) ?_
      exact X_r rfl rfl rfl rfl (kk C (hf ▸ hr))
    · subst e
      have hd1 : cntW (fun _ => upd (C 191) a 1) P = d := by
        have h1 := cntW_end (A := fun _ => C 191) (v := 1) (by decide) ha hma.2.2
        have h2 : cntW (st (fun _ => C 191) 0 a 1) P = cntW (fun _ => upd (C 191) a 1) P := cntW_le (fun q _ => rfl)
        omega
      -- what follows a's turn
      have nx : ∀ (l2' : List Nat) (z' : Ct × (Nat → Int32)) C', C' 191 = upd (C 191) a 1 → l2'.foldl (go1 F C0 t) z' = z1 → repM F C0 P u18 z'.2 z'.1 C' → inv F C0 P t z'.1 → l2'.Pairwise (lx F C0 z'.1) → (∀ p, p ∈ l2' → p < P) → (∀ p, p < P → ((mst z'.1 C' t p ∧ ¬ nuP F C0 z'.1 p = -1) ↔ p ∈ l2')) →
          X y_Model_second 124 [some (.ref 169), some (.int (nI t)), some (.int (nI a))] [] (hp F C' J G) Q := by
        intro l2' z' C' h191 hf' hr' hi' hpw' hlP' hl'
        repeat (refine X_n rfl rfl rfl ?_)
        refine X_k rfl rfl rfl rfl (Y_nextOne hF hS hP hmc hm hr' hi' ht (fun v hv => ?_))
        dsimp only
        iterate 2 (refine X_n rfl rfl rfl ?_)
        exact ih l2' z' C' v (by rw [h191]; exact hd1) hf' hr' hi' hpw' hlP' hl' hv
      have hr1 : repM F C0 P u18 z.2 z.1 (st C 191 a 1) := hr.gone
      obtain ⟨⟨c, c1, c2, c3, c4⟩, -, -⟩ := hi.1 a ha
      have ec := pA_eq hF c1 c2
      repeat (refine X_n rfl rfl rfl ?_)
      refine X_bf rfl rfl rfl (nI_pos (by omega)) ?_
      repeat (refine X_n rfl rfl rfl ?_)
      refine X_sb rfl rfl (by decide) rfl hF (show a < 60 by omega) ?_
      repeat (refine X_n rfl rfl rfl ?_)
      by_cases hu : nuP F C0 z.1 a = -1
      · have hl0 : l2 = [] := by
          cases l2 with
          | nil => rfl
          | cons h l =>
            have hh := hlP h (List.mem_cons_self ..)
            have h2 := (hl h hh).mpr (List.mem_cons_self ..)
            have k1 := key_lt hF hS hP hi hh h2.2
            have ka : keyP F C0 z.1 a = 100000 := m_if_t hu
            rcases hmin h hh h2.1 with g | ⟨g, -⟩
            · rw [ka, k1.1] at g; exact absurd (Int32.lt_trans g k1.2) (i32_irr _)
            · rw [ka, k1.1] at g; rw [← g] at k1; exact absurd k1.2 (i32_irr _)
        subst hl0
        have htn : tgt F C0 z.1 z.2 t (gRow F C0 a) (pA z.1 a) 4 = none := by
          rw [ec]
          unfold nuP at hu
          rw [ec] at hu
          exact tgt_un hF hS (gRow_lt hP ha) c1 hu
        refine X_k rfl rfl rfl rfl (Y_mgo hF hS hg hP hmc hm hr1 hi ht ha hma.1 (fun _ => ?_) (fun b C' hb => ?_))
        · dsimp only
          refine nx [] z _ rfl hf hr1 hi hpw hlP (fun p hp => ?_)
          refine ⟨fun h => ?_, fun h => (by cases h)⟩
          by_cases e : p = a
          · subst e; exact absurd hu h.2
          · exact (hl p hp).mp ⟨⟨h.1.1, h.1.2.1, by rw [← h.1.2.2, st_i e]⟩, h.2⟩
        · rw [htn] at hb; cases hb
      · have hal := (hl a ha).mp ⟨hma, hu⟩
        cases l2 with
        | nil => cases hal
        | cons h l =>
          obtain ⟨hp1, hp2⟩ := List.pairwise_cons.mp hpw
          have hh := hlP h (List.mem_cons_self ..)
          have h2 := (hl h hh).mpr (List.mem_cons_self ..)
          have eah : a = h := by
            rcases List.mem_cons.mp hal with g | g
            · exact g
            · have k1 := (key_lt hF hS hP hi hh h2.2).1
              have k2 := (key_lt hF hS hP hi ha hu).1
              have hlx := hp1 a g
              rcases hmin h hh h2.1 with w | ⟨w, w'⟩
              · rw [k1, k2] at w
                rcases hlx with u | ⟨u, -⟩
                · exact absurd (Int32.lt_trans w u) (i32_irr _)
                · rw [u] at w; exact absurd w (i32_irr _)
              · rw [k1, k2] at w
                rcases hlx with u | ⟨-, u⟩
                · rw [w] at u; exact absurd u (i32_irr _)
                · omega
          subst eah
          have hna : a ∉ l := fun m => lx_asym (hp1 a m) (hp1 a m)
          -- behind the step
          have after : ∀ (z' : Ct × (Nat → Int32)) C', z' = go1 F C0 t z a → C' 191 = upd (C 191) a 1 → repM F C0 P u18 z'.2 z'.1 C' → X y_Model_second 124 [some (.ref 169), some (.int (nI t)), some (.int (nI a))] [] (hp F C' J G) Q := by
            intro z' C' ez h191 hr'
            subst ez
            have hfld : ∀ p f, p ≠ a → (f ≤ 4 ∨ f = 9) → (go1 F C0 t z a).1 f p = z.1 f p := fun p f hpa hf => go1_f hpa hf
            have hnu : ∀ p, p ≠ a → nuP F C0 (go1 F C0 t z a).1 p = nuP F C0 z.1 p := fun p hpa => by unfold nuP pA; rw [hfld p 4 hpa (by omega)]
            refine nx l (go1 F C0 t z a) C' h191 hf hr' (go1_inv hF hS hP hi ht ha hma.1 hma.2.1) ?_ (fun p hp => hlP p (List.mem_cons_of_mem _ hp)) (fun p hp => ?_)
            · refine List.Pairwise.imp_of_mem (fun {x y} hx hy hxy => ?_) hp2
              unfold lx at *
              rw [hnu x (fun e => hna (e ▸ hx)), hnu y (fun e => hna (e ▸ hy))]
              exact hxy
            · by_cases e : p = a
              · subst e
                refine ⟨fun h => ?_, fun h => absurd h hna⟩
                have := h.1.2.2
                rw [h191] at this
                exact absurd (this.symm.trans (if_pos rfl)) (by decide)
              · rw [hnu p e]
                unfold mst
                rw [hfld p 0 e (by omega), hfld p 9 e (by omega), h191, show upd (C 191) a 1 p = C 191 p from if_neg e]
                refine (hl p hp).trans ⟨fun m => ?_, fun m => List.mem_cons_of_mem _ m⟩
                rcases List.mem_cons.mp m with g | g
                · exact absurd g e
                · exact g
          refine X_k rfl rfl rfl rfl (Y_mgo hF hS hg hP hmc hm hr1 hi ht ha hma.1 (fun hn => ?_) (fun b C' hb hr2 h191 => ?_))
          · dsimp only
            refine after z _ ?_ rfl hr1
            unfold go1; rw [hn]
          · dsimp only
            refine after (stp F C0 t a b z.1, upd z.2 b (z.2 b + 1)) C' ?_ h191 hr2
            unfold go1; rw [hb]
end
