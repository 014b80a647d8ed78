/-! the class's run: smoke, the order, all steps of a second -/
def arrL (f : Nat → Int32) : Nat → List Nat → Prop
  | _, [] => True
  | o, a :: l => f o = nI a ∧ arrL f (o + 1) l
section
variable {F : Fx} {C0 A C : Ct} {P t p b k c : Nat} {N : Nat → Int32} {J : Nat → Int64} {G : Ex} {Q : mE → mH → Prop}
theorem arrL_app {f : Nat → Int32} : ∀ {l1 l2 : List Nat} {o : Nat}, arrL f o (l1 ++ l2) ↔ arrL f o l1 ∧ arrL f (o + l1.length) l2 := by
  intro l1
  induction l1 with
  | nil => intro l2 o; simp [arrL]
  | cons a l ih =>
    intro l2 o
    simp only [List.cons_append, arrL, ih, List.length_cons]
    rw [show o + 1 + l.length = o + (l.length + 1) by omega, and_assoc]
theorem arrL_upd {f : Nat → Int32} {x : Nat} {v : Int32} : ∀ {l : List Nat} {o : Nat}, (x < o ∨ o + l.length ≤ x) → arrL f o l → arrL (upd f x v) o l := by
  intro l
  induction l with
  | nil => intro o _ _; trivial
  | cons a l ih =>
    intro o hx h
    rw [List.length_cons] at hx
    refine ⟨?_, ih (by omega) h.2⟩
    show (if o = x then v else f o) = nI a
    rw [if_neg (by omega)]
    exact h.1
theorem repC.ord {f : Nat → Int32} (h : repC F C0 P t N A C) (hP : P ≤ 60) : repC F C0 P t N A (stA C 163 f) := by
  obtain ⟨h1, h2, h3, h4, h5⟩ := h
  refine ⟨fun k hk => ?_, fun q hq => ?_, fun c hc => ?_, ?_, fun c hc => ?_⟩
  · rw [← h1 k hk, stA_f (by omega)]
  · have := h2 q hq
    have e39 := ne39 (q := q) (by omega)
    have e100 := ne100 (q := q) (by omega)
    unfold repP at *
    simpa [stA_r, e39, e100] using this
  · simpa [stA_r] using h3 c hc
  · rw [stA_f (by omega)]; exact h4
  · simpa [ciC, stA_r] using h5 c hc
theorem Y_fnum (hF : okF F) (hP : okP F C0 P) (hR : rwC F C0 P) (hr : repC F C0 P t N A C) (hi : inv F C0 P t A) (hpP : p < P) : Yd y_Flight_numberOf [.ref 29, .int (nI p)] (hp F C J G) (.inl (some (.int (nuP F C0 A p)))) (hp F C J G) := by
  refine Yd_of (fun Q kk => ?_)
  have hn := hF.n
  have hP60 := hP.1
  have hg9 := gRow_lt hP hpP
  obtain ⟨⟨c, c1, c2, c3, c4⟩, -, -⟩ := hi.1 p hpP
  obtain ⟨g0, g1, g2, g3, g4, g5, g6, g7⟩ := hr.2.1 p hpP
  unfold nuP at kk
  rw [pA_eq hF c1 c2, ← (hR p hpP c c1).1, ← hr.1 _ (by omega)] at kk
  unfold Y
  repeat (refine X_n rfl rfl rfl ?_)
  refine X_la rfl rfl rfl hF (show p < 60 by omega) ?_
  refine X_cd rfl rfl rfl rfl (Y_foundRowTo g6 hg9) ?_
  repeat (refine X_n rfl rfl rfl ?_)
  refine X_la rfl rfl rfl hF (show p < 60 by omega) ?_
  refine X_li rfl (hp_at (kd_row _ hg9).1 (ln_0 (kd_row _ hg9).2)) (g4.trans c2) c1 (by omega) ?_
  exact X_r rfl rfl rfl rfl kk
theorem Y_smokeEnd_loop (hF : okF F) (hP : okP F C0 P) (hi : inv F C0 P t A)
    (kk : ∀ v C', (v = 0 ∨ v = 1) → (v = 0 → ∀ p, p < P → A 0 p = 0 → ¬ brd C0 (pA A p) t) → repC F C0 P t N (ctI C0 t A P) C' → Q (.inl (some (.int v))) (hp F C' J G)) :
    ∀ d i C v, i + d = P → repC F C0 P t N (ctI C0 t A i) C → (v = 0 ∨ v = 1) → (v = 0 → ∀ p, p < i → A 0 p = 0 → ¬ brd C0 (pA A p) t) → X y_Flight_endInSmoke 4 [some (.ref 29), some (.int (nI t)), some (.int v), some (.int (nI i))] [] (hp F C J G) Q := by
  have hn := hF.n
  have hP60 := hP.1
  intro d
  induction d with
  | zero =>
    intro i C v hd hr hv hq
    have : i = P := by omega
    subst this
    repeat (refine X_n rfl rfl rfl ?_)
    refine X_bt rfl rfl rfl (show C 23 5 ≤ nI i by rw [hr.1 23 (by omega), hP.2.1]; exact Int32.le_refl _) ?_
    have hk := kk v C hv hq hr
    rcases hv with e | e
    · subst e
      repeat (refine X_n rfl rfl rfl ?_)
      exact X_r rfl rfl rfl rfl hk
    · subst e
      repeat (refine X_n rfl rfl rfl ?_)
      exact X_r rfl rfl rfl rfl hk
  | succ d ih =>
    intro i C v hd hr hv hq
    have hiP : i < P := by omega
    have hi2 := ct_inv (C := C0) (t := t) hF hi (show i ≤ P by omega)
    obtain ⟨⟨c, c1, c2, c3, c4⟩, -, -⟩ := hi2.1 i hiP
    obtain ⟨g0, g1, g2, g3, g4, g5, g6, g7⟩ := hr.2.1 i hiP
    have e0 : ctI C0 t A i 0 i = A 0 i := ct_f (Nat.le_refl i) (by omega)
    have e4 : pA (ctI C0 t A i) i = pA A i := by unfold pA; rw [ct_f (Nat.le_refl i) (by omega)]
    have ec := pA_eq hF c1 c2
    have nx : ∀ C' v', repC F C0 P t N (ctI C0 t A (i + 1)) C' → (v' = 0 ∨ v' = 1) → (v' = 0 → ∀ p, p < i + 1 → A 0 p = 0 → ¬ brd C0 (pA A p) t) → X y_Flight_endInSmoke 62 [some (.ref 29), some (.int (nI t)), some (.int v'), some (.int (nI i))] [] (hp F C' J G) Q := by
      intro C' v' h1 h2 h3
      iterate 2 (refine X_n rfl rfl rfl ?_)
      rw [nI_1']
      exact ih (i + 1) C' v' (by omega) h1 h2 h3
    have no : ¬ (ctI C0 t A i 0 i = 0 ∧ brd C0 (pA (ctI C0 t A i) i) t) → X y_Flight_endInSmoke 62 [some (.ref 29), some (.int (nI t)), some (.int v), some (.int (nI i))] [] (hp F C J G) Q := by
      intro h
      refine nx C v (by rw [ctI, m_if_f h]; exact hr) hv (fun e p hp => ?_)
      by_cases ep : p = i
      · subst ep
        rw [e0, e4] at h
        exact fun a b => h ⟨a, b⟩
      · exact hq e p (by omega)
    repeat (refine X_n rfl rfl rfl ?_)
    refine X_bf rfl rfl rfl (show ¬ C 23 5 ≤ nI i by rw [hr.1 23 (by omega), hP.2.1]; exact nI_ge hiP (by omega)) ?_
    repeat (refine X_n rfl rfl rfl ?_)
    refine X_la rfl rfl rfl hF (show i < 60 by omega) ?_
    refine X_b rfl rfl rfl (fun q => ?_) (fun q => ?_)
    · exact no (fun h => q (g0.trans h.1))
    · have q := Classical.not_not.mp q
      repeat (refine X_n rfl rfl rfl ?_)
      refine X_la rfl rfl rfl hF (show i < 60 by omega) ?_
      refine X_top (g4.trans c2) ?_
      repeat (refine X_n rfl rfl rfl ?_)
      refine X_cd rfl rfl rfl rfl (Y_isBarred hF c1) ?_
      refine X_z rfl (fun q2 => ?_) (fun q2 => ?_)
      · exact no (fun h => q2 (by rw [hr.1 4 (by omega)]; rw [ec] at h; exact h.2))
      · rw [hr.1 4 (by omega)] at q2
        repeat (refine X_n rfl rfl rfl ?_)
        refine X_la rfl rfl rfl hF (show i < 60 by omega) ?_
        refine X_top (g4.trans c2) ?_
        repeat (refine X_n rfl rfl rfl ?_)
        refine X_sa rfl rfl rfl hF c1 ?_
        repeat (refine X_n rfl rfl rfl ?_)
        refine X_cd rfl rfl rfl rfl (Y_end hF (show i < 60 by omega)) ?_
        iterate 2 (refine X_n rfl rfl rfl ?_)
        refine nx _ 1 ?_ (Or.inr rfl) (fun h => absurd h (by decide))
        have h := (hr.cell (b := c) (v := -1) hP60).fin (p := i) (how := 2) (by decide) hiP (by simpa [st_r] using g0.symm.trans q) hP60
        rw [ctI, m_if_t ⟨g0.symm.trans q, by rw [ec]; exact q2⟩, ec]
        exact h
theorem Y_smokeEnd (hF : okF F) (hP : okP F C0 P) (hi : inv F C0 P t A) (hr : repC F C0 P t N A C)
    (kk : ∀ v C', (v = 0 ∨ v = 1) → (v = 0 → ∀ p, p < P → A 0 p = 0 → ¬ brd C0 (pA A p) t) → repC F C0 P t N (ctI C0 t A P) C' → Q (.inl (some (.int v))) (hp F C' J G)) :
    Y y_Flight_endInSmoke [.ref 29, .int (nI t)] (hp F C J G) Q := by
  unfold Y
  iterate 4 (refine X_n rfl rfl rfl ?_)
  exact Y_smokeEnd_loop hF hP hi kk P 0 C 0 (by omega) hr (Or.inl rfl) (fun _ p hp => by omega)
end
