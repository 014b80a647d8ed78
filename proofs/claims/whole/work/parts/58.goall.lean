/-! the class's run: all steps of a second, the next change, the beginning, the whole -/
section
variable {F : Fx} {C0 A C : Ct} {P t p b k c : Nat} {N : Nat → Int32} {J : Nat → Int64} {G : Ex} {Q : mE → mH → Prop}
theorem Y_stepAll_loop {l : List Nat} {m : Nat} {z1 : Ct × (Nat → Int32)} (hF : okF F) (hS : okS F C0) (hP : okP F C0 P) (hR : rwC F C0 P) (ht : t ≤ 3600) (hm : m = l.length) (hm60 : m ≤ 60)
    (kk : ∀ v C', (v = 0 ∨ v = 1) → (v = 0 → ∀ p, p ∈ l → tgt F C0 A (fun _ => 0) t (gRow F C0 p) (pA A p) 4 = none) → repC F C0 P t z1.2 z1.1 C' → Q (.inl (some (.int v))) (hp F C' J G)) :
    ∀ l2 (z : Ct × (Nat → Int32)) C v j, l2.foldl (go1 F C0 t) z = z1 → l2.Nodup → (∀ p, p ∈ l2 → p < P ∧ cand F C0 z.1 t p) → j + l2.length = m → arrL (C 163) j l2 → repC F C0 P t z.2 z.1 C → inv F C0 P t z.1 → (v = 0 ∨ v = 1) → (v = 0 → z = (A, fun _ => 0) ∧ ∀ p, p ∈ l → p ∈ l2 ∨ tgt F C0 A (fun _ => 0) t (gRow F C0 p) (pA A p) 4 = none) →
    X y_Flight_stepAll 11 [some (.ref 29), some (.int (nI t)), some (.int v), some (.int (nI m)), some (.int (nI j))] [] (hp F C J G) Q := by
  have hP60 := hP.1
  intro l2
  induction l2 with
  | nil =>
    intro z C v j e1 _ _ e2 _ hr hi hv hq
    have : j = m := by rw [List.length_nil] at e2; omega
    subst this
    have e1 : z = z1 := e1
    have hk := kk v C hv (fun e p hp => by
      rcases (hq e).2 p hp with g | g
      · cases g
      · exact g) (e1 ▸ hr)
    repeat (refine X_n rfl rfl rfl ?_)
    refine X_bt rfl rfl rfl (Int32.le_refl _) ?_
    rcases hv with e | e
    · subst e
      repeat (refine X_n rfl rfl rfl ?_)
      exact X_r rfl rfl rfl rfl hk
    · subst e
      repeat (refine X_n rfl rfl rfl ?_)
      exact X_r rfl rfl rfl rfl hk
  | cons a l2 ih =>
    intro z C v j e1 hd hc e2 ha hr hi hv hq
    rw [List.length_cons] at e2
    obtain ⟨hd1, hd2⟩ := List.nodup_cons.mp hd
    obtain ⟨haP, hca⟩ := hc a (List.mem_cons_self ..)
    have hc2 : ∀ p, p ∈ l2 → p < P ∧ cand F C0 (go1 F C0 t z a).1 t p := fun p hp => by
      have hpa : p ≠ a := fun e => hd1 (e ▸ hp)
      obtain ⟨h1, h2⟩ := hc p (List.mem_cons_of_mem _ hp)
      exact ⟨h1, (cand_f (go1_f hpa (by omega)) (go1_f hpa (by omega)) (go1_f hpa (by omega))).mpr h2⟩
    have hi2 := go1_inv hF hS hP hi ht haP hca.1 hca.2.1
    rw [List.foldl_cons] at e1
    repeat (refine X_n rfl rfl rfl ?_)
    refine X_bf rfl rfl rfl (show ¬ nI m ≤ nI j from nI_ge (by omega) (by omega)) ?_
    repeat (refine X_n rfl rfl rfl ?_)
    refine X_la rfl rfl rfl hF (show j < 60 by omega) ?_
    refine X_top (w := nI a) ha.1 ?_
    repeat (refine X_n rfl rfl rfl ?_)
    refine X_k rfl rfl rfl rfl (Y_stepOne hF hS hP hR hr hi haP hca.1 (fun hn => ?_) (fun b C' hb hr2 h163 => ?_))
    · have ez : go1 F C0 t z a = z := by unfold go1; rw [hn]
      rw [ez] at e1 hc2 hi2
      dsimp only
      repeat (refine X_n rfl rfl rfl ?_)
      refine X_bt rfl rfl rfl rfl ?_
      iterate 2 (refine X_n rfl rfl rfl ?_)
      rw [nI_1']
      refine ih z C v (j + 1) e1 hd2 hc2 (by omega) ha.2 hr hi2 hv (fun e => ⟨(hq e).1, fun p hp => ?_⟩)
      rcases (hq e).2 p hp with g | g
      · rcases List.mem_cons.mp g with g | g
        · right
          have hz := (hq e).1
          rw [g]
          rw [hz] at hn
          exact hn
        · exact Or.inl g
      · exact Or.inr g
    · have ez : go1 F C0 t z a = (stp F C0 t a b z.1, upd z.2 b (z.2 b + 1)) := by unfold go1; rw [hb]
      rw [ez] at e1 hc2 hi2
      dsimp only
      repeat (refine X_n rfl rfl rfl ?_)
      refine X_bf rfl rfl rfl (show ¬ (1 : Int32) = 0 by decide) ?_
      iterate 2 (refine X_n rfl rfl rfl ?_)
      iterate 2 (refine X_n rfl rfl rfl ?_)
      rw [nI_1']
      exact ih _ C' 1 (j + 1) e1 hd2 hc2 (by omega) (by rw [h163]; exact ha.2) hr2 hi2 (Or.inr rfl) (fun e => absurd e (by decide))
theorem Y_stepAll (hF : okF F) (hS : okS F C0) (hP : okP F C0 P) (hR : rwC F C0 P) (ht : t ≤ 3600) (hr : repC F C0 P t (fun _ => 0) A C) (hi : inv F C0 P t A)
    (kk : ∀ v C', (v = 0 ∨ v = 1) → (v = 0 → ∀ p, p < P → cand F C0 A t p → tgt F C0 A (fun _ => 0) t (gRow F C0 p) (pA A p) 4 = none) → repC F C0 P t ((ordL F C0 A t P).foldl (go1 F C0 t) (A, fun _ => 0)).2 ((ordL F C0 A t P).foldl (go1 F C0 t) (A, fun _ => 0)).1 C' → Q (.inl (some (.int v))) (hp F C' J G)) :
    Y y_Flight_stepAll [.ref 29, .int (nI t)] (hp F C J G) Q := by
  have hP60 := hP.1
  unfold Y
  iterate 4 (refine X_n rfl rfl rfl ?_)
  refine X_k rfl rfl rfl rfl (Y_lineUp hF hP hR hr hi (fun f l hf ho => ?_))
  dsimp only
  iterate 3 (refine X_n rfl rfl rfl ?_)
  have e := ordL_eq ho
  rw [← e] at kk
  have hl := ord_len ho
  exact Y_stepAll_loop (l := l) (A := A) hF hS hP hR ht rfl (by omega) (fun v C' h1 h2 h3 => kk v C' h1 (fun e p hp hc => h2 e p ((ho.2 p).mpr ⟨hp, hc⟩)) h3) l (A, fun _ => 0) (stA C 163 f) 0 0 rfl (ord_nodup ho) (fun p hp => (ho.2 p).mp hp) (by omega) (by rw [stA_k]; exact hf) (hr.ord hP60) hi (Or.inl rfl) (fun _ => ⟨rfl, fun p hp => Or.inl hp⟩)
/-- the next change -/
def ncp (C0 A : Ct) (t u p : Nat) : Prop := A 0 p = 0 → (A 9 p ≤ nI t ∨ nI u ≤ A 9 p) ∧ (C0 4 (pA A p) ≤ nI t ∨ nI u ≤ C0 4 (pA A p))
theorem min_of {u : Nat} {x : Int32} (hu : t < u) (hu2 : u ≤ 3600) (hx : nI t < x) : ∃ u', t < u' ∧ u' ≤ u ∧ (if x < nI u then x else nI u) = nI u' ∧ nI u' ≤ x := by
  by_cases q : x < nI u
  · rw [if_pos q]
    have : ¬ x < 0 := fun h => i32_irr _ (Int32.lt_trans (Int32.lt_of_le_of_lt (nI_pos' (n := t) (by omega)) hx) h)
    obtain ⟨j, hj, e⟩ := nI_of this
    subst e
    exact ⟨j, (nI_ltI (by omega) hj).mp hx, Nat.le_of_lt ((nI_ltI hj (by omega)).mp q), rfl, Int32.le_refl _⟩
  · rw [if_neg q]
    exact ⟨u, hu, Nat.le_refl u, rfl, Int32.not_lt.mp q⟩
theorem ncp.mono {u u' : Nat} (h : ncp C0 A t u p) (hu : u' ≤ u) (h3 : u ≤ 3600) : ncp C0 A t u' p := fun e => by
  obtain ⟨h1, h2⟩ := h e
  have hle : nI u' ≤ nI u := nI_le hu (by omega)
  refine ⟨?_, ?_⟩
  · rcases h1 with g | g
    · exact Or.inl g
    · exact Or.inr (Int32.le_trans hle g)
  · rcases h2 with g | g
    · exact Or.inl g
    · exact Or.inr (Int32.le_trans hle g)
theorem Y_nextChange_loop (hF : okF F) (hP : okP F C0 P) (hr : repC F C0 P t N A C) (hi : inv F C0 P t A) (ht : t < 3600)
    (kk : ∀ u, t < u → u ≤ 3600 → (∀ p, p < P → ncp C0 A t u p) → Q (.inl (some (.int (nI u)))) (hp F C J G)) :
    ∀ d i u x4 x5, i + d = P → t < u → u ≤ 3600 → (∀ p, p < i → ncp C0 A t u p) → X y_Flight_nextChange 6 [some (.ref 29), some (.int (nI t)), some (.int (nI u)), some (.int (nI i)), x4, x5] [] (hp F C J G) Q := by
  have hn := hF.n
  have hP60 := hP.1
  have e23 : C 23 5 = nI P := by rw [hr.1 23 (by omega)]; exact hP.2.1
  intro d
  induction d with
  | zero =>
    intro i u x4 x5 hd h1 h2 h3
    have : i = P := by omega
    subst this
    repeat (refine X_n rfl rfl rfl ?_)
    refine X_bt rfl rfl rfl (show C 23 5 ≤ nI i by rw [e23]; exact Int32.le_refl _) ?_
    repeat (refine X_n rfl rfl rfl ?_)
    exact X_r rfl rfl rfl rfl (kk u h1 h2 h3)
  | succ d ih =>
    intro i u x4 x5 hd h1 h2 h3
    have hiP : i < P := by omega
    obtain ⟨⟨c, c1, c2, c3, c4⟩, -, -⟩ := hi.1 i hiP
    have ec := pA_eq hF c1 c2
    obtain ⟨g0, g1, g2, g3, g4, g5, g6, g7⟩ := hr.2.1 i hiP
    have nx : ∀ u x4 x5, t < u → u ≤ 3600 → (∀ p, p < i → ncp C0 A t u p) → ncp C0 A t u i → X y_Flight_nextChange 76 [some (.ref 29), some (.int (nI t)), some (.int (nI u)), some (.int (nI i)), x4, x5] [] (hp F C J G) Q := by
      intro u x4 x5 h1 h2 h3 h4
      iterate 2 (refine X_n rfl rfl rfl ?_)
      rw [nI_1']
      refine ih (i + 1) u x4 x5 (by omega) h1 h2 (fun p hp => ?_)
      by_cases e : p = i
      · subst e; exact h4
      · exact h3 p (by omega)
    have hC4 : C 4 = C0 4 := hr.1 4 (by omega)
    have st2 : ∀ u x4 x5, t < u → u ≤ 3600 → (∀ p, p < i → ncp C0 A t u p) → (A 9 i ≤ nI t ∨ nI u ≤ A 9 i) → X y_Flight_nextChange 47 [some (.ref 29), some (.int (nI t)), some (.int (nI u)), some (.int (nI i)), x4, x5] [] (hp F C J G) Q := by
      intro u x4 x5 h1 h2 h3 h9
      repeat (refine X_n rfl rfl rfl ?_)
      refine X_la rfl rfl rfl hF (show i < 60 by omega) ?_
      refine X_top (w := nI c) (g4.trans c2) ?_
      refine X_la rfl rfl rfl hF c1 ?_
      rw [hC4]
      repeat (refine X_n rfl rfl rfl ?_)
      refine X_b rfl rfl rfl (fun q => ?_) (fun q => ?_)
      · refine nx u _ _ h1 h2 h3 (fun _ => ⟨h9, Or.inl ?_⟩)
        rw [ec]; exact q
      · have q := Int32.not_le.mp q
        obtain ⟨u', w1, w2, w3, w4⟩ := min_of h1 h2 q
        iterate 3 (refine X_n rfl rfl rfl ?_)
        refine X_top (w := nI u') w3 ?_
        iterate 1 (refine X_n rfl rfl rfl ?_)
        refine nx u' _ _ w1 (by omega) (fun p hp => (h3 p hp).mono w2 h2) (fun e => ⟨?_, Or.inr (by rw [ec]; exact w4)⟩)
        rcases h9 with g | g
        · exact Or.inl g
        · exact Or.inr (Int32.le_trans (nI_le w2 (by omega)) g)
    repeat (refine X_n rfl rfl rfl ?_)
    refine X_bf rfl rfl rfl (show ¬ C 23 5 ≤ nI i by rw [e23]; exact nI_ge hiP (by omega)) ?_
    repeat (refine X_n rfl rfl rfl ?_)
    refine X_la rfl rfl rfl hF (show i < 60 by omega) ?_
    refine X_b rfl rfl rfl (fun q => ?_) (fun q => ?_)
    · exact nx u _ _ h1 h2 h3 (fun e => absurd (g0.trans e) q)
    repeat (refine X_n rfl rfl rfl ?_)
    refine X_la rfl rfl rfl hF (show i < 60 by omega) ?_
    repeat (refine X_n rfl rfl rfl ?_)
    refine X_b rfl rfl rfl (fun q2 => ?_) (fun q2 => ?_)
    · exact st2 u _ _ h1 h2 h3 (Or.inl (by rw [← g5]; exact q2))
    · have q2 := Int32.not_le.mp q2
      obtain ⟨u', w1, w2, w3, w4⟩ := min_of h1 h2 q2
      iterate 3 (refine X_n rfl rfl rfl ?_)
      refine X_top (w := nI u') w3 ?_
      iterate 1 (refine X_n rfl rfl rfl ?_)
      exact st2 u' _ _ w1 (by omega) (fun p hp => (h3 p hp).mono w2 h2) (Or.inr (by rw [← g5]; exact w4))
theorem Y_nextChange (hF : okF F) (hP : okP F C0 P) (hr : repC F C0 P t N A C) (hi : inv F C0 P t A) (ht : t < 3600)
    (kk : ∀ u, t < u → u ≤ 3600 → (∀ p, p < P → ncp C0 A t u p) → Q (.inl (some (.int (nI u)))) (hp F C J G)) : Y y_Flight_nextChange [.ref 29, .int (nI t)] (hp F C J G) Q := by
  unfold Y
  iterate 4 (refine X_n rfl rfl rfl ?_)
  exact Y_nextChange_loop hF hP hr hi ht kk P 0 3600 none none (by omega) ht (Nat.le_refl _) (fun p hp => by omega)
end
